/-! PLACES FROM 5000 ON ARE NEVER LOOKED AT: rows may be laid there, to be compared with -/
def hat (G M : xM) : xM := fun p => if 5000 ≤ p then G p else M p
theorem hat_lo {G M : xM} {p : Nat} (h : p < 5000) : hat G M p = M p := if_neg (by omega)
theorem hat_hi {G M : xM} {p : Nat} (h : 5000 ≤ p) : hat G M p = G p := if_pos h
theorem hat_up {G M : xM} {p : Nat} {r : Nat → Int32} (h : p < 5000) : va_up (hat G M) p r = hat G (va_up M p r) := by
  funext q
  by_cases e : q = p
  · subst e
    rw [va_up_self, hat_lo h, va_up_self]
  · rw [va_up_ne _ _ e]
    by_cases hq : 5000 ≤ q
    · rw [hat_hi hq, hat_hi hq]
    · rw [hat_lo (by omega), hat_lo (by omega), va_up_ne _ _ e]
theorem hat_xup {G M : xM} {p i : Nat} {x : Int32} (h : p < 5000) : xup (hat G M) p i x = hat G (xup M p i x) := by
  unfold xup
  rw [hat_lo h]
  exact hat_up h
def hatS (G : xM) (s : xS) : xS := (s.1, s.2.1, s.2.2.1, s.2.2.2.1, s.2.2.2.2.1, hat G s.2.2.2.2.2)
def hatZ (G : xM) (r : xZ) : xZ := (r.1, r.2.1, r.2.2.1, hat G r.2.2.2)
def hatR (G : xM) : xR → xR
  | none => none
  | some (.inl s) => some (.inl (hatS G s))
  | some (.inr (.inl (z, as, s))) => some (.inr (.inl (z, as, hatS G s)))
  | some (.inr (.inr v)) => some (.inr (.inr v))
/-- fewer places than 5000 -/
def few (s : xS) : Prop := s.2.2.2.2.1.length = s.2.2.2.1 ∧ s.2.2.2.1 ≤ 900
abbrev hatF (G : xM) (f : xS → xR) : Prop := ∀ s : xS, few s → f (hatS G s) = hatR G (f s)
section HAT
variable {G : xM}
theorem few_lt {pc : Nat} {pl : List (Option Value)} {st : List Value} {nz : Nat} {sh : List xSh} {M : xM} {p : Nat} {d : xSh} (h : few (pc, pl, st, nz, sh, M)) (hp : sh[p]? = some d) : p < 5000 := by
  have h1 := (List.getElem?_eq_some_iff.mp hp).1
  have h2 : sh.length = nz := h.1
  have h3 : nz ≤ 900 := h.2
  omega
theorem hat_const {v : Value} {len : Nat} : hatF G (xo_const v len) := by
  intro s hf
  obtain ⟨pc, pl, st, nz, sh, M⟩ := s
  rfl

theorem hat_iload {i len : Nat} : hatF G (xo_iload i len) := by
  intro s hf
  obtain ⟨pc, pl, st, nz, sh, M⟩ := s
  show xo_iload i len (pc, pl, st, nz, sh, hat G M) = hatR G (xo_iload i len (pc, pl, st, nz, sh, M))
  unfold xo_iload
  dsimp only
  cases pl[i]? with
  | none => rfl
  | some v => cases v with
    | none => rfl
    | some w => cases w <;> rfl

theorem hat_lload {i len : Nat} : hatF G (xo_lload i len) := by
  intro s hf
  obtain ⟨pc, pl, st, nz, sh, M⟩ := s
  show xo_lload i len (pc, pl, st, nz, sh, hat G M) = hatR G (xo_lload i len (pc, pl, st, nz, sh, M))
  unfold xo_lload
  dsimp only
  cases pl[i]? with
  | none => rfl
  | some v => cases v with
    | none => rfl
    | some w => cases w <;> rfl

theorem hat_aload {i len : Nat} : hatF G (xo_aload i len) := by
  intro s hf
  obtain ⟨pc, pl, st, nz, sh, M⟩ := s
  show xo_aload i len (pc, pl, st, nz, sh, hat G M) = hatR G (xo_aload i len (pc, pl, st, nz, sh, M))
  unfold xo_aload
  dsimp only
  cases pl[i]? with
  | none => rfl
  | some v => cases v with
    | none => rfl
    | some w => cases w <;> first | rfl | (rename_i x; dsimp only; cases Nat.ble 3000 x <;> rfl)

theorem hat_istore {i len : Nat} : hatF G (xo_istore i len) := by
  intro s hf
  obtain ⟨pc, pl, st, nz, sh, M⟩ := s
  (rcases st with _ | ⟨a, st⟩ <;> first | rfl | (cases a <;> first | rfl | (unfold xo_istore hatS; dsimp only; cases xok1 pl i <;> rfl)))

theorem hat_astore {i len : Nat} : hatF G (xo_astore i len) := by
  intro s hf
  obtain ⟨pc, pl, st, nz, sh, M⟩ := s
  (rcases st with _ | ⟨a, st⟩ <;> first | rfl | (cases a <;> first | rfl | (rename_i x; unfold xo_astore hatS; dsimp only; cases xok1 pl i && Nat.ble (x + 1) 3000 <;> rfl)))

theorem hat_iinc {i : Nat} {n : Int} {len : Nat} : hatF G (xo_iinc i n len) := by
  intro s hf
  obtain ⟨pc, pl, st, nz, sh, M⟩ := s
  show xo_iinc i n len (pc, pl, st, nz, sh, hat G M) = hatR G (xo_iinc i n len (pc, pl, st, nz, sh, M))
  unfold xo_iinc
  dsimp only
  cases pl[i]? with
  | none => rfl
  | some v => cases v with
    | none => rfl
    | some w => cases w <;> first | rfl | (dsimp only; cases xok1 pl i && Nat.beq len 3 <;> rfl)

theorem hat_bin {f : Int32 → Int32 → Int32} : hatF G (xo_bin f) := by
  intro s hf
  obtain ⟨pc, pl, st, nz, sh, M⟩ := s
  (rcases st with _ | ⟨a, st⟩ <;> first | rfl | (cases a <;> first | rfl | (rcases st with _ | ⟨b, st⟩ <;> first | rfl | (cases b <;> first | rfl | (rfl)))))

theorem hat_div {f : Int32 → Int32 → Int32} : hatF G (xo_div f) := by
  intro s hf
  obtain ⟨pc, pl, st, nz, sh, M⟩ := s
  (rcases st with _ | ⟨a, st⟩ <;> first | rfl | (cases a <;> first | rfl | (rcases st with _ | ⟨b, st⟩ <;> first | rfl | (cases b <;> first | rfl | (unfold xo_div hatS; dsimp only; split <;> rfl)))))

theorem hat_lbin {f : Int64 → Int64 → Int64} : hatF G (xo_lbin f) := by
  intro s hf
  obtain ⟨pc, pl, st, nz, sh, M⟩ := s
  (rcases st with _ | ⟨a, st⟩ <;> first | rfl | (cases a <;> first | rfl | (rcases st with _ | ⟨b, st⟩ <;> first | rfl | (cases b <;> first | rfl | (rfl)))))

theorem hat_lsh {f : Int64 → Int32 → Int64} : hatF G (xo_lsh f) := by
  intro s hf
  obtain ⟨pc, pl, st, nz, sh, M⟩ := s
  (rcases st with _ | ⟨a, st⟩ <;> first | rfl | (cases a <;> first | rfl | (rcases st with _ | ⟨b, st⟩ <;> first | rfl | (cases b <;> first | rfl | (rfl)))))

theorem hat_un {f : Int32 → Int32} : hatF G (xo_un f) := by
  intro s hf
  obtain ⟨pc, pl, st, nz, sh, M⟩ := s
  (rcases st with _ | ⟨a, st⟩ <;> first | rfl | (cases a <;> first | rfl | (rfl)))

theorem hat_i2l : hatF G (xo_i2l) := by
  intro s hf
  obtain ⟨pc, pl, st, nz, sh, M⟩ := s
  (rcases st with _ | ⟨a, st⟩ <;> first | rfl | (cases a <;> first | rfl | (rfl)))

theorem hat_l2i : hatF G (xo_l2i) := by
  intro s hf
  obtain ⟨pc, pl, st, nz, sh, M⟩ := s
  (rcases st with _ | ⟨a, st⟩ <;> first | rfl | (cases a <;> first | rfl | (rfl)))

theorem hat_lcmp : hatF G (xo_lcmp) := by
  intro s hf
  obtain ⟨pc, pl, st, nz, sh, M⟩ := s
  (rcases st with _ | ⟨a, st⟩ <;> first | rfl | (cases a <;> first | rfl | (rcases st with _ | ⟨b, st⟩ <;> first | rfl | (cases b <;> first | rfl | (rfl)))))

theorem hat_pop : hatF G (xo_pop) := by
  intro s hf
  obtain ⟨pc, pl, st, nz, sh, M⟩ := s
  rcases st with _ | ⟨a, st⟩
  · rfl
  · unfold xo_pop hatS; dsimp only; cases xc1 a <;> rfl

theorem hat_dup : hatF G (xo_dup) := by
  intro s hf
  obtain ⟨pc, pl, st, nz, sh, M⟩ := s
  rcases st with _ | ⟨a, st⟩
  · rfl
  · unfold xo_dup hatS; dsimp only; cases xc1 a <;> rfl

theorem hat_dup_x1 : hatF G (xo_dup_x1) := by
  intro s hf
  obtain ⟨pc, pl, st, nz, sh, M⟩ := s
  rcases st with _ | ⟨a, _ | ⟨b, st⟩⟩
  · rfl
  · rfl
  · unfold xo_dup_x1 hatS; dsimp only; cases xc1 a && xc1 b <;> rfl

theorem hat_dup_x2 : hatF G (xo_dup_x2) := by
  intro s hf
  obtain ⟨pc, pl, st, nz, sh, M⟩ := s
  rcases st with _ | ⟨a, _ | ⟨b, _ | ⟨c, st⟩⟩⟩
  · rfl
  · rfl
  · rfl
  · unfold xo_dup_x2 hatS; dsimp only; cases xc1 a && xc1 b && xc1 c <;> rfl

theorem hat_dup2 : hatF G (xo_dup2) := by
  intro s hf
  obtain ⟨pc, pl, st, nz, sh, M⟩ := s
  rcases st with _ | ⟨a, _ | ⟨b, st⟩⟩
  · rfl
  · rfl
  · unfold xo_dup2 hatS; dsimp only; cases xc1 a && xc1 b <;> rfl

theorem hat_if {op : Jvm.ClassFile.Cond} {tgt : Nat} : hatF G (xo_if op tgt) := by
  intro s hf
  obtain ⟨pc, pl, st, nz, sh, M⟩ := s
  (rcases st with _ | ⟨a, st⟩ <;> first | rfl | (cases a <;> first | rfl | (rfl)))

theorem hat_icmp {op : Jvm.ClassFile.Cond} {tgt : Nat} : hatF G (xo_icmp op tgt) := by
  intro s hf
  obtain ⟨pc, pl, st, nz, sh, M⟩ := s
  (rcases st with _ | ⟨a, st⟩ <;> first | rfl | (cases a <;> first | rfl | (rcases st with _ | ⟨b, st⟩ <;> first | rfl | (cases b <;> first | rfl | (rfl)))))

theorem hat_goto {tgt : Nat} : hatF G (xo_goto tgt) := by
  intro s hf
  obtain ⟨pc, pl, st, nz, sh, M⟩ := s
  rfl

theorem hat_tab {d lo hi : Int} {offs : Array Int} : hatF G (xo_tab d lo hi offs) := by
  intro s hf
  obtain ⟨pc, pl, st, nz, sh, M⟩ := s
  (rcases st with _ | ⟨a, st⟩ <;> first | rfl | (cases a <;> first | rfl | (rename_i x; unfold xo_tab hatS; dsimp only; cases xtab pc d lo hi offs x <;> rfl)))

theorem hat_look {d : Int} {ps : Array (Int × Int)} : hatF G (xo_look d ps) := by
  intro s hf
  obtain ⟨pc, pl, st, nz, sh, M⟩ := s
  (rcases st with _ | ⟨a, st⟩ <;> first | rfl | (cases a <;> first | rfl | (rename_i x; unfold xo_look hatS; dsimp only; cases xtgt pc (Op.lookupswitch.offset ps.toList d x.toInt) with
    | none => rfl
    | some t => dsimp only; cases (ps.toList.zip (ps.toList.drop 1)).all (fun (a, next) => a.1 < next.1) <;> rfl)))

theorem hat_iald {xs : Nat → Int32} {L : Nat} : hatF G (xo_iald xs L) := by
  intro s hf
  obtain ⟨pc, pl, st, nz, sh, M⟩ := s
  rcases st with _ | ⟨a, _ | ⟨b, st⟩⟩
  · rfl
  · cases a <;> rfl
  · cases a <;> first | rfl | (cases b <;> first | rfl | skip)
    rename_i i p
    unfold xo_iald hatS
    dsimp only
    cases Nat.beq p 999 with
    | true => dsimp only [cond_true]; cases xoutB i L <;> rfl
    | false =>
      dsimp only [cond_false]
      cases hp : sh[p]? with
      | none => rfl
      | some d =>
        rcases d with ⟨ty, n⟩ | o
        · cases ty <;> first | rfl | (dsimp only; rw [hat_lo (few_lt hf hp)]; cases xoutB i n <;> rfl)
        · rfl
theorem hat_bald : hatF G xo_bald := by
  intro s hf
  obtain ⟨pc, pl, st, nz, sh, M⟩ := s
  rcases st with _ | ⟨a, _ | ⟨b, st⟩⟩
  · rfl
  · cases a <;> rfl
  · cases a <;> first | rfl | (cases b <;> first | rfl | skip)
    rename_i i p
    unfold xo_bald hatS
    dsimp only
    cases Nat.ble 2000 p with
    | true =>
      dsimp only [cond_true]
      cases Nat.ble (p + 1) 2008 with
      | true => dsimp only [cond_true]; cases xoutB i (xSl.getD (p - 2000) 0) <;> rfl
      | false => rfl
    | false =>
      dsimp only [cond_false]
      cases hp : sh[p]? with
      | none => rfl
      | some d =>
        rcases d with ⟨ty, n⟩ | o
        · cases ty <;> first | rfl | (dsimp only; rw [hat_lo (few_lt hf hp)]; cases xoutB i n <;> rfl)
        · rfl
theorem hat_cald : hatF G xo_cald := by
  intro s hf
  obtain ⟨pc, pl, st, nz, sh, M⟩ := s
  rcases st with _ | ⟨a, _ | ⟨b, st⟩⟩
  · rfl
  · cases a <;> rfl
  · cases a <;> first | rfl | (cases b <;> first | rfl | skip)
    rename_i i p
    unfold xo_cald hatS
    dsimp only
    cases hp : sh[p]? with
    | none => rfl
    | some d =>
      rcases d with ⟨ty, n⟩ | o
      · cases ty <;> first | rfl | (dsimp only; rw [hat_lo (few_lt hf hp)]; cases xoutB i n <;> rfl)
      · rfl
theorem hat_alen {L : Nat} : hatF G (xo_alen L) := by
  intro s hf
  obtain ⟨pc, pl, st, nz, sh, M⟩ := s
  rcases st with _ | ⟨a, st⟩
  · rfl
  · cases a <;> first | rfl | skip
    rename_i p
    unfold xo_alen hatS
    dsimp only
    cases Nat.beq p 999 with
    | true => rfl
    | false =>
      dsimp only [cond_false]
      cases Nat.ble 2000 p with
      | true => dsimp only [cond_true]; cases Nat.ble (p + 1) 2008 <;> rfl
      | false =>
        dsimp only [cond_false]
        cases hp : sh[p]? with
        | none => rfl
        | some d =>
          rcases d with ⟨ty, n⟩ | o
          · cases ty <;> rfl
          · rfl
theorem hat_iast : hatF G xo_iast := by
  intro s hf
  obtain ⟨pc, pl, st, nz, sh, M⟩ := s
  rcases st with _ | ⟨a, _ | ⟨b, _ | ⟨c, st⟩⟩⟩
  · rfl
  · cases a <;> rfl
  · cases a <;> first | rfl | (cases b <;> rfl)
  · cases a <;> first | rfl | (cases b <;> first | rfl | (cases c <;> first | rfl | skip))
    rename_i x i p
    unfold xo_iast hatS
    dsimp only
    cases hp : sh[p]? with
    | none => rfl
    | some d =>
      rcases d with ⟨ty, n⟩ | o
      · cases ty <;> first | rfl | (dsimp only; rw [hat_xup (few_lt hf hp)]; cases xoutB i n <;> rfl)
      · rfl
theorem hat_bast : hatF G xo_bast := by
  intro s hf
  obtain ⟨pc, pl, st, nz, sh, M⟩ := s
  rcases st with _ | ⟨a, _ | ⟨b, _ | ⟨c, st⟩⟩⟩
  · rfl
  · cases a <;> rfl
  · cases a <;> first | rfl | (cases b <;> rfl)
  · cases a <;> first | rfl | (cases b <;> first | rfl | (cases c <;> first | rfl | skip))
    rename_i x i p
    unfold xo_bast hatS
    dsimp only
    cases hp : sh[p]? with
    | none => rfl
    | some d =>
      rcases d with ⟨ty, n⟩ | o
      · cases ty <;> first | rfl | (dsimp only; rw [hat_xup (few_lt hf hp)]; cases xoutB i n <;> rfl)
      · rfl
theorem hat_cast : hatF G xo_cast := by
  intro s hf
  obtain ⟨pc, pl, st, nz, sh, M⟩ := s
  rcases st with _ | ⟨a, _ | ⟨b, _ | ⟨c, st⟩⟩⟩
  · rfl
  · cases a <;> rfl
  · cases a <;> first | rfl | (cases b <;> rfl)
  · cases a <;> first | rfl | (cases b <;> first | rfl | (cases c <;> first | rfl | skip))
    rename_i x i p
    unfold xo_cast hatS
    dsimp only
    cases hp : sh[p]? with
    | none => rfl
    | some d =>
      rcases d with ⟨ty, n⟩ | o
      · cases ty <;> first | rfl | (dsimp only; rw [hat_xup (few_lt hf hp)]; cases xoutB i n <;> rfl)
      · rfl
theorem hat_gets {a : Nat} : hatF G (xo_gets a) := by
  intro s hf
  obtain ⟨pc, pl, st, nz, sh, M⟩ := s
  unfold xo_gets hatS
  dsimp only
  cases Nat.beq a 0 <;> first | rfl | (cases Nat.beq a 1 <;> rfl)
theorem hat_getf {a b : Nat} : hatF G (xo_getf a b) := by
  intro s hf
  obtain ⟨pc, pl, st, nz, sh, M⟩ := s
  rcases st with _ | ⟨v, st⟩
  · rfl
  · cases v <;> first | rfl | skip
    rename_i p
    unfold xo_getf hatS
    dsimp only
    cases Nat.beq a 100 with
    | true => dsimp only [cond_true]; cases Nat.ble 1000 p && Nat.ble (p + 1) 1008 <;> rfl
    | false =>
      dsimp only [cond_false]
      cases hp : sh[p]? with
      | none => rfl
      | some d =>
        rcases d with o | ⟨ci, fs⟩
        · rfl
        · dsimp only
          cases Nat.beq ci a with
          | false => rfl
          | true =>
            dsimp only [cond_true]
            cases fs[b]? with
            | none => rfl
            | some r =>
              cases r with
              | none => dsimp only; rw [hat_lo (few_lt hf hp)]; rfl
              | some r =>
                cases r with
                | none => rfl
                | some q => dsimp only; cases Nat.ble 999 q <;> rfl
theorem hat_putf {a b : Nat} : hatF G (xo_putf a b) := by
  intro s hf
  obtain ⟨pc, pl, st, nz, sh, M⟩ := s
  rcases st with _ | ⟨v, _ | ⟨w, st⟩⟩
  · rfl
  · cases v <;> rfl
  · cases v <;> first | rfl | skip
    · cases w <;> first | rfl | skip
      rename_i x p
      unfold xo_putf hatS
      dsimp only
      cases hp : sh[p]? with
      | none => rfl
      | some d =>
        rcases d with o | ⟨ci, fs⟩
        · rfl
        · dsimp only
          cases fs[b]? with
          | none => rfl
          | some r =>
            cases r with
            | none => dsimp only; rw [hat_xup (few_lt hf hp)]; cases Nat.beq ci a || (Nat.beq (ci + 50) a && (decide (x = 0) || decide (x = 1))) <;> rfl
            | some r => rfl
    · cases w <;> first | rfl | skip
      rename_i q p
      unfold xo_putf hatS
      dsimp only
      cases sh[p]? with
      | none => rfl
      | some d =>
        rcases d with o | ⟨ci, fs⟩
        · rfl
        · dsimp only
          cases fs[b]? with
          | none => rfl
          | some r =>
            cases r with
            | none => rfl
            | some r => dsimp only; cases Nat.beq (ci + 100) a && Nat.ble (q + 1) 999 <;> rfl
theorem hat_new {ini : List (Option (Option Nat))} {a : Nat} : hatF G (xo_new ini a) := by
  intro s hf
  obtain ⟨pc, pl, st, nz, sh, M⟩ := s
  have h9 : nz ≤ 900 := hf.2
  unfold xo_new hatS
  dsimp only
  rw [hat_up (by omega)]
  cases xfree nz pl st sh && Nat.ble (nz + 1) 900 <;> rfl
theorem hat_newa {ty : FieldType} : hatF G (xo_newa ty) := by
  intro s hf
  obtain ⟨pc, pl, st, nz, sh, M⟩ := s
  have h9 : nz ≤ 900 := hf.2
  rcases st with _ | ⟨v, st⟩
  · rfl
  · cases v <;> first | rfl | skip
    rename_i n
    unfold xo_newa hatS
    dsimp only
    rw [hat_up (by omega)]
    cases xfree nz pl st sh && Nat.ble (nz + 1) 900 && !(decide (n < 0)) && Nat.ble n.toNatClampNeg 10000 <;> rfl
theorem hat_obj : hatF G xo_obj := by
  intro s hf
  obtain ⟨pc, pl, st, nz, sh, M⟩ := s
  rcases st with _ | ⟨v, st⟩
  · rfl
  · cases v <;> first | rfl | skip
    rename_i p
    unfold xo_obj hatS
    dsimp only
    cases xcat st && Nat.ble (p + 1) 3000 <;> rfl
theorem hat_copy : hatF G xo_copy := by
  intro s hf
  obtain ⟨pc, pl, st, nz, sh, M⟩ := s
  rcases st with _ | ⟨v1, _ | ⟨v2, _ | ⟨v3, _ | ⟨v4, _ | ⟨v5, st⟩⟩⟩⟩⟩
  · rfl
  · cases v1 <;> rfl
  · cases v1 <;> first | rfl | (cases v2 <;> rfl)
  · cases v1 <;> first | rfl | (cases v2 <;> first | rfl | (cases v3 <;> rfl))
  · cases v1 <;> first | rfl | (cases v2 <;> first | rfl | (cases v3 <;> first | rfl | (cases v4 <;> rfl)))
  · cases v1 <;> first | rfl | (cases v2 <;> first | rfl | (cases v3 <;> first | rfl | (cases v4 <;> first | rfl | (cases v5 <;> first | rfl | skip))))
    rename_i n dp q sp p
    unfold xo_copy hatS
    dsimp only
    cases hp : sh[p]? with
    | none => rfl
    | some d =>
      cases hq : sh[q]? with
      | none => rcases d with ⟨ty, n0⟩ | o <;> first | rfl | (cases ty <;> rfl)
      | some d' =>
        rcases d with ⟨ty, n0⟩ | o
        · cases ty <;> first | rfl | skip
          rcases d' with ⟨ty', n1⟩ | o'
          · cases ty' <;> first | rfl | skip
            dsimp only
            rw [hat_lo (few_lt hf hp), hat_lo (few_lt hf hq), hat_up (few_lt hf hq)]
            cases xcat st && !(decide (sp < 0)) && !(decide (dp < 0)) && !(decide (n < 0)) && Nat.ble (sp.toNatClampNeg + n.toNatClampNeg) n0 && Nat.ble (dp.toNatClampNeg + n.toNatClampNeg) n1 <;> rfl
          · rfl
        · rfl
theorem hat_call {inst : Bool} {ci z n : Nat} : hatF G (xo_call inst ci z n) := by
  intro s hf
  obtain ⟨pc, pl, st, nz, sh, M⟩ := s
  unfold xo_call hatS
  dsimp only
  cases Nat.ble n st.length with
  | false => rfl
  | true =>
    dsimp only [cond_true]
    cases inst with
    | true =>
      dsimp only [cond_true]
      rcases st.drop n with _ | ⟨v, rest⟩
      · rfl
      · cases v <;> first | rfl | (rename_i p; dsimp only; cases xcat rest && xrcv ci p sh <;> rfl)
    | false =>
      dsimp only [cond_false]
      cases xcat (st.drop n) <;> rfl
theorem hat_init {z n : Nat} : hatF G (xo_init z n) := by
  intro s hf
  obtain ⟨pc, pl, st, nz, sh, M⟩ := s
  unfold xo_init hatS
  dsimp only
  cases Nat.ble n st.length with
  | false => rfl
  | true =>
    dsimp only [cond_true]
    rcases st.drop n with _ | ⟨v, rest⟩
    · rfl
    · cases v <;> first | rfl | (rename_i p; dsimp only; cases xcat rest && Nat.ble (p + 1) 999 <;> rfl)
theorem hat_iret {ret : Option FieldType} : hatF G (xo_iret ret) := by
  intro s hf
  obtain ⟨pc, pl, st, nz, sh, M⟩ := s
  rcases st with _ | ⟨v, _ | ⟨w, st⟩⟩
  · rfl
  · cases v <;> first | rfl | skip
    rename_i x
    cases ret with
    | none => rfl
    | some ty =>
      unfold xo_iret hatS
      dsimp only
      cases ty <;> first | rfl | (dsimp only; cases decide (narrow _ (.int x) = .int x) <;> rfl)
  · cases v <;> rfl
theorem hat_vret {ret : Option FieldType} : hatF G (xo_vret ret) := by
  intro s hf
  obtain ⟨pc, pl, st, nz, sh, M⟩ := s
  rcases st with _ | ⟨v, st⟩
  · cases ret <;> rfl
  · cases v <;> rfl
theorem hat_none : hatF G (fun _ => none) := fun _ _ => rfl
theorem hat_ex {xs : Nat → Int32} {L y : Nat} {e : xEn} : hatF G (xex xs L y e) := by
  intro s hf
  obtain ⟨i, len, a, b, z⟩ := e
  cases i with
  | iconst n => exact hat_const s hf
  | bipush n => exact hat_const s hf
  | sipush n => exact hat_const s hf
  | lconst n => exact hat_const s hf
  | ldc k =>
    show (bif Nat.ble (a + 1) 8 then xo_const (.ref (1000 + a)) len else fun _ => none) (hatS G s) = hatR G ((bif Nat.ble (a + 1) 8 then xo_const (.ref (1000 + a)) len else fun _ => none) s)
    cases Nat.ble (a + 1) 8 with
    | true => exact hat_const s hf
    | false => rfl
  | ldc2_w k => exact hat_const s hf
  | iload_n k => exact hat_iload s hf
  | iload k => exact hat_iload s hf
  | lload_n k => exact hat_lload s hf
  | lload k => exact hat_lload s hf
  | aload_n k => exact hat_aload s hf
  | aload k => exact hat_aload s hf
  | istore_n k => exact hat_istore s hf
  | istore k => exact hat_istore s hf
  | astore_n k => exact hat_astore s hf
  | astore k => exact hat_astore s hf
  | iinc k n => exact hat_iinc s hf
  | iadd => exact hat_bin s hf
  | isub => exact hat_bin s hf
  | imul => exact hat_bin s hf
  | iand => exact hat_bin s hf
  | ior => exact hat_bin s hf
  | ixor => exact hat_bin s hf
  | ishl => exact hat_bin s hf
  | ishr => exact hat_bin s hf
  | iushr => exact hat_bin s hf
  | idiv => exact hat_div s hf
  | irem => exact hat_div s hf
  | land => exact hat_lbin s hf
  | lor => exact hat_lbin s hf
  | lshl => exact hat_lsh s hf
  | lshr => exact hat_lsh s hf
  | lushr => exact hat_lsh s hf
  | i2b => exact hat_un s hf
  | i2c => exact hat_un s hf
  | i2l => exact hat_i2l s hf
  | l2i => exact hat_l2i s hf
  | lcmp => exact hat_lcmp s hf
  | pop => exact hat_pop s hf
  | dup => exact hat_dup s hf
  | dup_x1 => exact hat_dup_x1 s hf
  | dup_x2 => exact hat_dup_x2 s hf
  | dup2 => exact hat_dup2 s hf
  | ifCond op off => exact hat_if s hf
  | if_icmp op off => exact hat_icmp s hf
  | goto off => exact hat_goto s hf
  | tableswitch d lo hi offs => exact hat_tab s hf
  | lookupswitch d ps => exact hat_look s hf
  | iaload => exact hat_iald s hf
  | baload => exact hat_bald s hf
  | caload => exact hat_cald s hf
  | iastore => exact hat_iast s hf
  | bastore => exact hat_bast s hf
  | castore => exact hat_cast s hf
  | arraylength => exact hat_alen s hf
  | getstatic k => exact hat_gets s hf
  | getfield k => exact hat_getf s hf
  | putfield k => exact hat_putf s hf
  | new k =>
    show (bif Nat.ble (a + 1) 12 then xo_new (xini.getD a []) a else fun _ => none) (hatS G s) = hatR G ((bif Nat.ble (a + 1) 12 then xo_new (xini.getD a []) a else fun _ => none) s)
    cases Nat.ble (a + 1) 12 with
    | true => exact hat_new s hf
    | false => rfl
  | newarray ty => exact hat_newa s hf
  | invokevirtual k =>
    show (bif Nat.ble (a + 1) xN then xo_call true (xci a) a b else fun _ => none) (hatS G s) = hatR G ((bif Nat.ble (a + 1) xN then xo_call true (xci a) a b else fun _ => none) s)
    cases Nat.ble (a + 1) xN with
    | true => exact hat_call s hf
    | false => rfl
  | invokestatic k =>
    show (bif Nat.ble (a + 1) xN then xo_call false 0 a b else bif Nat.beq a 901 then xo_copy else fun _ => none) (hatS G s) = hatR G ((bif Nat.ble (a + 1) xN then xo_call false 0 a b else bif Nat.beq a 901 then xo_copy else fun _ => none) s)
    cases Nat.ble (a + 1) xN with
    | true => exact hat_call s hf
    | false =>
      dsimp only [cond_false]
      cases Nat.beq a 901 with
      | true => exact hat_copy s hf
      | false => rfl
  | invokespecial k =>
    show (bif Nat.beq a 900 then xo_obj else bif Nat.ble (a + 1) xN then xo_init a b else fun _ => none) (hatS G s) = hatR G ((bif Nat.beq a 900 then xo_obj else bif Nat.ble (a + 1) xN then xo_init a b else fun _ => none) s)
    cases Nat.beq a 900 with
    | true => exact hat_obj s hf
    | false =>
      dsimp only [cond_false]
      cases Nat.ble (a + 1) xN with
      | true => exact hat_init s hf
      | false => rfl
  | ireturn => exact hat_iret s hf
  | return_ => exact hat_vret s hf
  | _ => rfl
theorem hat_step {xs : Nat → Int32} {L y : Nat} {s : xS} (hf : few s) : xstep xs L y (hatS G s) = hatR G (xstep xs L y s) := by
  unfold xstep
  show (match xI y s.1 with
    | some e => xex xs L y e (hatS G s)
    | none => none) = _
  cases xI y s.1 with
  | none => rfl
  | some e => exact hat_ex s hf
def fewQ : xS ⊕ ((Nat × List Value × xS) ⊕ Option Value) → Prop
  | .inl s => few s
  | .inr (.inl c) => few c.2.2
  | .inr (.inr _) => True
abbrev fewF (f : xS → xR) : Prop := ∀ (s : xS) (q : xS ⊕ ((Nat × List Value × xS) ⊕ Option Value)), few s → f s = some q → fewQ q
theorem few_newo {ini : List (Option (Option Nat))} {a : Nat} : fewF (xo_new ini a) := by
  intro s q hz h
  obtain ⟨pc, pl, st, nz, sh, M⟩ := s
  simp only [xo_new, Bool.cond_eq_ite] at h
  split at h
  · rename_i hc
    cases h
    simp only [Bool.and_eq_true] at hc
    have h1 : sh.length = nz := hz.1
    refine ⟨?_, Nat.le_of_ble_eq_true hc.2⟩
    show (sh ++ [_]).length = nz + 1
    rw [List.length_append, h1]
    rfl
  · cases h
theorem few_newa {ty : FieldType} : fewF (xo_newa ty) := by
  intro s q hz h
  obtain ⟨pc, pl, st, nz, sh, M⟩ := s
  unfold xo_newa at h
  split at h
  · rename_i heq
    cases heq
    simp only [Bool.cond_eq_ite] at h
    split at h
    · rename_i hc
      cases h
      simp only [Bool.and_eq_true] at hc
      have h1 : sh.length = nz := hz.1
      refine ⟨?_, Nat.le_of_ble_eq_true hc.1.1.2⟩
      show (sh ++ [_]).length = nz + 1
      rw [List.length_append, h1]
      rfl
    · cases h
  · cases h
theorem few_putf {a b : Nat} : fewF (xo_putf a b) := by
  intro s q hz h
  unfold xo_putf at h
  split at h
  · split at h
    · split at h
      · rw [Bool.cond_eq_ite] at h
        split at h
        · cases h
          exact hz
        · cases h
      · cases h
    · cases h
  · split at h
    · split at h
      · rw [Bool.cond_eq_ite] at h
        split at h
        · cases h
          refine ⟨?_, hz.2⟩
          exact (List.length_set).trans hz.1
        · cases h
      · cases h
    · cases h
  · cases h
theorem few_call {inst : Bool} {ci z n : Nat} : fewF (xo_call inst ci z n) := by
  intro s q hz h
  obtain ⟨pc, pl, st, nz, sh, M⟩ := s
  simp only [xo_call, Bool.cond_eq_ite] at h
  repeat' split at h
  all_goals first
    | (cases h; done)
    | (cases h; exact hz)
theorem few_init {z n : Nat} : fewF (xo_init z n) := by
  intro s q hz h
  obtain ⟨pc, pl, st, nz, sh, M⟩ := s
  simp only [xo_init, Bool.cond_eq_ite] at h
  repeat' split at h
  all_goals first
    | (cases h; done)
    | (cases h; exact hz)
theorem few_obj : fewF xo_obj := by
  intro s q hz h
  unfold xo_obj at h
  simp only [Bool.cond_eq_ite] at h
  repeat' split at h
  all_goals first
    | (cases h; done)
    | (cases h; exact hz)
theorem few_copy : fewF xo_copy := by
  intro s q hz h
  unfold xo_copy at h
  simp only [Bool.cond_eq_ite] at h
  repeat' split at h
  all_goals first
    | (cases h; done)
    | (cases h; exact hz)
theorem few_iast : fewF xo_iast := by
  intro s q hz h
  unfold xo_iast at h
  simp only [Bool.cond_eq_ite] at h
  repeat' split at h
  all_goals first
    | (cases h; done)
    | (cases h; exact hz)
theorem few_bast : fewF xo_bast := by
  intro s q hz h
  unfold xo_bast at h
  simp only [Bool.cond_eq_ite] at h
  repeat' split at h
  all_goals first
    | (cases h; done)
    | (cases h; exact hz)
theorem few_cast : fewF xo_cast := by
  intro s q hz h
  unfold xo_cast at h
  simp only [Bool.cond_eq_ite] at h
  repeat' split at h
  all_goals first
    | (cases h; done)
    | (cases h; exact hz)
theorem few_ex {xs : Nat → Int32} {L y : Nat} {e : xEn} : fewF (xex xs L y e) := by
  intro s q hz h
  obtain ⟨i, len, a, b, z⟩ := e
  cases i with
  | iastore => exact few_iast s q hz h
  | bastore => exact few_bast s q hz h
  | castore => exact few_cast s q hz h
  | putfield f => exact few_putf s q hz h
  | newarray ty => exact few_newa s q hz h
  | new f =>
    have h : (bif Nat.ble (a + 1) 12 then xo_new (xini.getD a []) a else fun _ => none) s = some q := h
    cases c : Nat.ble (a + 1) 12 with
    | true => rw [c] at h; exact few_newo s q hz h
    | false => rw [c] at h; cases h
  | invokestatic f =>
    have h : (bif Nat.ble (a + 1) xN then xo_call false 0 a b else bif Nat.beq a 901 then xo_copy else fun _ => none) s = some q := h
    cases c : Nat.ble (a + 1) xN with
    | true =>
      rw [c] at h
      exact few_call s q hz h
    | false =>
      rw [c] at h
      cases c1 : Nat.beq a 901 with
      | true => rw [c1] at h; exact few_copy s q hz h
      | false => rw [c1] at h; cases h
  | invokevirtual f =>
    have h : (bif Nat.ble (a + 1) xN then xo_call true (xci a) a b else fun _ => none) s = some q := h
    cases c : Nat.ble (a + 1) xN with
    | true => rw [c] at h; exact few_call s q hz h
    | false => rw [c] at h; cases h
  | invokespecial f =>
    have h : (bif Nat.beq a 900 then xo_obj else bif Nat.ble (a + 1) xN then xo_init a b else fun _ => none) s = some q := h
    cases c : Nat.beq a 900 with
    | true => rw [c] at h; exact few_obj s q hz h
    | false =>
      rw [c] at h
      cases c1 : Nat.ble (a + 1) xN with
      | true => rw [c1] at h; exact few_init s q hz h
      | false => rw [c1] at h; cases h
  | _ =>
    first
      | (cases h; done)
      | (simp only [xex, xo_const, xo_iload, xo_lload, xo_aload, xo_istore, xo_astore, xo_iinc, xo_bin, xo_div, xo_lbin, xo_lsh, xo_un, xo_i2l, xo_l2i, xo_lcmp, xo_pop, xo_dup, xo_dup_x1, xo_dup_x2, xo_dup2, xo_if, xo_icmp, xo_goto, xo_tab, xo_look, xo_iald, xo_alen, xo_bald, xo_cald, xo_gets, xo_getf, xo_obj, xo_call, xo_init, xo_iret, xo_vret, Bool.cond_eq_ite] at h
         repeat' split at h
         all_goals first
           | (cases h; done)
           | (cases h; exact hz)
           | (cases h; trivial))
theorem few_step {xs : Nat → Int32} {L y : Nat} : fewF (xstep xs L y) := by
  intro s q hz h
  unfold xstep at h
  split at h
  · exact few_ex s q hz h
  · cases h
/-- runs on rows laid from 5000 on are runs without them -/
theorem hat_run {xs : Nat → Int32} {L : Nat} : ∀ (n y : Nat) (s : xS) (r : xZ), few s → xrun xs L n y (hatS G s) = some r → ∃ r0, xrun xs L n y s = some r0 ∧ r = hatZ G r0 ∧ r0.2.2.1.length = r0.2.1 ∧ r0.2.1 ≤ 900
  | 0, _, _, _, _, h => by cases h
  | n + 1, y, s, r, hf, h => by
    unfold xrun at h ⊢
    rw [hat_step hf] at h
    cases hs : xstep xs L y s with
    | none => rw [hs] at h; cases h
    | some q =>
      rw [hs] at h
      have hq := few_step s q hf hs
      match q, h, hq with
      | .inl s', h, hq =>
        exact hat_run n y s' r hq h
      | .inr (.inr v), h, hq =>
        cases h
        exact ⟨_, rfl, rfl, hf.1, hf.2⟩
      | .inr (.inl (z, as, pc, pl, st, nz, sh, M)), h, hq =>
        have h : (bif Nat.ble (xargs as).length (xm z).2.2.1 then (match xrun xs L n z (hatS G (0, xent z as, [], nz, sh, M)) with
          | none => none
          | some (v, nz', sh', M') => bif Nat.beq nz' nz || xbelow nz pl st then xrun xs L n y (pc, pl, v.toList ++ st, nz', sh', M') else none) else none) = some r := h
        show ∃ r0, (bif Nat.ble (xargs as).length (xm z).2.2.1 then (match xrun xs L n z (0, xent z as, [], nz, sh, M) with
          | none => none
          | some (v, nz', sh', M') => bif Nat.beq nz' nz || xbelow nz pl st then xrun xs L n y (pc, pl, v.toList ++ st, nz', sh', M') else none) else none) = some r0 ∧ _
        cases c1 : Nat.ble (xargs as).length (xm z).2.2.1 with
        | false => rw [c1] at h; cases h
        | true =>
          rw [c1] at h
          dsimp only [cond_true] at h ⊢
          cases hr : xrun xs L n z (hatS G (0, xent z as, [], nz, sh, M)) with
          | none => rw [hr] at h; cases h
          | some r1 =>
            rw [hr] at h
            obtain ⟨r2, g1, g2, g3, g4⟩ := hat_run n z (0, xent z as, [], nz, sh, M) r1 hq hr
            obtain ⟨v2, nz2, sh2, M2⟩ := r2
            subst g2
            rw [g1]
            have h : (bif Nat.beq nz2 nz || xbelow nz pl st then xrun xs L n y (hatS G (pc, pl, v2.toList ++ st, nz2, sh2, M2)) else none) = some r := h
            show ∃ r0, (bif Nat.beq nz2 nz || xbelow nz pl st then xrun xs L n y (pc, pl, v2.toList ++ st, nz2, sh2, M2) else none) = some r0 ∧ _
            cases c2 : Nat.beq nz2 nz || xbelow nz pl st with
            | false => rw [c2] at h; cases h
            | true =>
              rw [c2] at h
              exact hat_run n y (pc, pl, v2.toList ++ st, nz2, sh2, M2) r ⟨g3, g4⟩ h
theorem PL_hat {xs : Nat → Int32} {L y pc : Nat} {pl : List (Option Value)} {st : List Value} {M : xM} {Q : xZ → Prop} (h : PL xs L y (pc, pl, st, 102, xsh0, hat G M) Q) (hQ : ∀ r, Q (hatZ G r) → Q r) : PL xs L y (pc, pl, st, 102, xsh0, M) Q := by
  obtain ⟨n, r, h1, h2⟩ := h
  obtain ⟨r0, g1, g2, -⟩ := hat_run n y (pc, pl, st, 102, xsh0, M) r ⟨rfl, Nat.le_of_ble_eq_true rfl⟩ h1
  subst g2
  exact ⟨n, r0, g1, hQ r0 h2⟩
end HAT
