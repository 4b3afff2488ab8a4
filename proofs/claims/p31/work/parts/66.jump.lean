/-! THE ANALYZER, five: longs, the stack, jumps -/
section AOP3
variable {xs : Nat → Int32} {L : Nat} {prs : List (Nat × Nat)} {w : aW} {M : xM} {K : aKn} {ρ : Nat → Int} {pl : List (Option aV)} {sk : List aV} {plc : List (Option Value)} {skc : List Value} {pc : Nat} {l : List aT}
theorem i64_and {x y : Int64} (h : 0 ≤ y.toInt) : 0 ≤ (x &&& y).toInt ∧ (x &&& y).toInt ≤ y.toInt := by
  have tn (z : Int64) : z.toInt = if 2 * z.toBitVec.toNat < 18446744073709551616 then (z.toBitVec.toNat : Int) else (z.toBitVec.toNat : Int) - 18446744073709551616 := by
    show z.toBitVec.toInt = _
    rw [BitVec.toInt_eq_toNat_cond]
    rfl
  have e1 := tn (x &&& y)
  have e2 := tn y
  have e3 : (x &&& y).toBitVec.toNat = x.toBitVec.toNat &&& y.toBitVec.toNat := by
    rw [Int64.toBitVec_and, BitVec.toNat_and]
  have e4 : x.toBitVec.toNat &&& y.toBitVec.toNat ≤ y.toBitVec.toNat := Nat.and_le_right
  have e5 := y.toBitVec.isLt
  rw [e3] at e1
  split at e1 <;> split at e2 <;> omega
def ao_lbin (an : Bool) (pc : Nat) (pl : List (Option aV)) (sk : List aV) (K : aKn) : Option (List aT) := match sk with
  | .inr (.inl y) :: .inr (.inl _) :: sk => (match y with
    | some y => bif an && aeqT y.2 [] && ileb 0 y.1 then some [(pc + 1, pl, .inr (.inl (some (afr K (0, y.1)).1)) :: sk, (afr K (0, y.1)).2)] else some [(pc + 1, pl, .inr (.inl none) :: sk, K)]
    | none => some [(pc + 1, pl, .inr (.inl none) :: sk, K)])
  | _ => none
theorem ao_lbin_of {an : Bool} {g : Int64 → Int64 → Int64} (hg : an = true → g = fun x y => x &&& y) (h : ao_lbin an pc pl sk K = some l) (hM : aInv M) (hR : aHR xs L prs M K ρ pl sk plc skc) : aOut xs L prs w M K ρ l (xo_lbin g (pc, plc, skc, 102, xsh0, M)) := by
  unfold ao_lbin at h
  split at h
  · rename_i y x sk'
    obtain ⟨v, m, e⟩ := astk_cons hR.s
    subst e
    obtain ⟨b, e⟩ := aval_long hR.s.1
    subst e
    obtain ⟨v, m, e⟩ := astk_cons hR.s.2
    subst e
    obtain ⟨a, e⟩ := aval_long hR.s.2.1
    subst e
    have gen : aOut xs L prs w M K ρ [(pc + 1, pl, .inr (.inl none) :: sk', K)] (xo_lbin g (pc, plc, .long b :: .long a :: m, 102, xsh0, M)) :=
      aOut.same (plc' := plc) (skc' := .long (g a b) :: m) hM hR.kn rfl (fun ρ' hr => ⟨(hR ρ' hr).2.1, trivial, (hR ρ' hr).2.2.2.2⟩)
    split at h
    · rename_i y'
      cases c : an && aeqT y'.2 [] && ileb 0 y'.1 with
      | true =>
        rw [c] at h
        cases h
        rw [Bool.and_eq_true, Bool.and_eq_true, ileb_iff] at c
        have e1 := aeqT_of c.1.2
        have hb : b.toInt = aev ρ y' := hR.s.1
        rw [aev_nil e1] at hb
        have hz := i64_and (x := a) (y := b) (by omega)
        refine aOut.new (plc' := plc) (skc' := .long (g a b) :: m) hM rfl (afr_of (q := (0, y'.1)) (z := (g a b).toInt) hR.kn ?_) (fun ρ' hr hP => ⟨(hR ρ' hr).2.1, hP, (hR ρ' hr).2.2.2.2⟩)
        rw [hg c.1.1, ← hb]
        exact hz
      | false =>
        rw [c] at h
        cases h
        exact gen
    · cases h
      exact gen
  · cases h
def ao_lsh (pc : Nat) (pl : List (Option aV)) (sk : List aV) (K : aKn) : Option (List aT) := match sk with
  | .inl _ :: .inr (.inl _) :: sk => some [(pc + 1, pl, .inr (.inl none) :: sk, K)]
  | _ => none
theorem ao_lsh_of {g : Int64 → Int32 → Int64} (h : ao_lsh pc pl sk K = some l) (hM : aInv M) (hR : aHR xs L prs M K ρ pl sk plc skc) : aOut xs L prs w M K ρ l (xo_lsh g (pc, plc, skc, 102, xsh0, M)) := by
  unfold ao_lsh at h
  split at h
  · rename_i y x sk'
    obtain ⟨v, m, e⟩ := astk_cons hR.s
    subst e
    obtain ⟨b, e⟩ := aval_int hR.s.1
    subst e
    obtain ⟨v, m, e⟩ := astk_cons hR.s.2
    subst e
    obtain ⟨a, e⟩ := aval_long hR.s.2.1
    subst e
    cases h
    exact aOut.same (plc' := plc) (skc' := .long (g a b) :: m) hM hR.kn rfl (fun ρ' hr => ⟨(hR ρ' hr).2.1, trivial, (hR ρ' hr).2.2.2.2⟩)
  · cases h
def ao_i2b (pc : Nat) (pl : List (Option aV)) (sk : List aV) (K : aKn) : Option (List aT) := match sk with
  | .inl _ :: sk => some [(pc + 1, pl, .inl (afr K (-128, 127)).1 :: sk, (afr K (-128, 127)).2)]
  | _ => none
theorem i8_b (x : Int32) : -128 ≤ x.toInt8.toInt32.toInt ∧ x.toInt8.toInt32.toInt ≤ 127 := by
  rw [Int8.toInt_toInt32]
  have h1 := Int8.le_toInt x.toInt8
  have h2 := Int8.toInt_lt x.toInt8
  omega
theorem ao_i2b_of (h : ao_i2b pc pl sk K = some l) (hM : aInv M) (hR : aHR xs L prs M K ρ pl sk plc skc) : aOut xs L prs w M K ρ l (xo_un (fun x => x.toInt8.toInt32) (pc, plc, skc, 102, xsh0, M)) := by
  unfold ao_i2b at h
  split at h
  · obtain ⟨v, m, e⟩ := astk_cons hR.s
    subst e
    obtain ⟨a, e⟩ := aval_int hR.s.1
    subst e
    cases h
    exact aOut.new (plc' := plc) (skc' := .int a.toInt8.toInt32 :: m) hM rfl (afr_of (q := (-128, 127)) (z := a.toInt8.toInt32.toInt) hR.kn (i8_b a)) (fun ρ' hr hP => ⟨(hR ρ' hr).2.1, hP, (hR ρ' hr).2.2.2⟩)
  · cases h
theorem i32_tnp {x : Int32} (h : 0 ≤ x.toInt) : (x.toBitVec.toNat : Int) = x.toInt := by
  have := i32_tn x
  have h2 := x.toBitVec.isLt
  split at this <;> omega
theorem u32_i (u : UInt32) (h : u.toNat < 2147483648) : u.toInt32.toInt = (u.toNat : Int) := by
  have e := i32_tn u.toInt32
  have e2 : u.toInt32.toBitVec.toNat = u.toNat := rfl
  rw [e2, if_pos (by omega)] at e
  exact e
theorem i16_b (x : Int32) : 0 ≤ (x.toUInt32 % 65536).toInt32.toInt ∧ (x.toUInt32 % 65536).toInt32.toInt ≤ 65535 := by
  have e : (x.toUInt32 % 65536).toNat = x.toUInt32.toNat % 65536 := by
    rw [UInt32.toNat_mod]
    rfl
  have h := Nat.mod_lt x.toUInt32.toNat (show 0 < 65536 by decide)
  rw [u32_i _ (by omega), e]
  omega
theorem i16_id {x : Int32} (h1 : 0 ≤ x.toInt) (h2 : x.toInt ≤ 65535) : (x.toUInt32 % 65536).toInt32 = x := by
  have e : (x.toUInt32 % 65536).toNat = x.toUInt32.toNat % 65536 := by
    rw [UInt32.toNat_mod]
    rfl
  have h3 := i32_tnp h1
  have h4 : x.toUInt32.toNat = x.toBitVec.toNat := rfl
  apply Int32.toInt_inj.mp
  rw [u32_i _ (by omega), e, h4]
  omega
def ao_i2c (pc : Nat) (pl : List (Option aV)) (sk : List aV) (K : aKn) : Option (List aT) := match sk with
  | .inl x :: sk => bif abt K x (0, 65535) then some [(pc + 1, pl, .inl x :: sk, K)] else some [(pc + 1, pl, .inl (afr K (0, 65535)).1 :: sk, (afr K (0, 65535)).2)]
  | _ => none
theorem ao_i2c_of (h : ao_i2c pc pl sk K = some l) (hM : aInv M) (hR : aHR xs L prs M K ρ pl sk plc skc) : aOut xs L prs w M K ρ l (xo_un (fun x => (x.toUInt32 % 65536).toInt32) (pc, plc, skc, 102, xsh0, M)) := by
  unfold ao_i2c at h
  split at h
  · rename_i x sk'
    obtain ⟨v, m, e⟩ := astk_cons hR.s
    subst e
    obtain ⟨a, e⟩ := aval_int hR.s.1
    subst e
    cases c : abt K x (0, 65535) with
    | true =>
      rw [c] at h
      cases h
      have hb := abt_of (hR.kn ρ (agr_refl _ _)) c
      have ha : a.toInt = aev ρ x := hR.s.1
      have e : (a.toUInt32 % 65536).toInt32 = a := i16_id (by rw [ha]; exact hb.1) (by rw [ha]; exact hb.2)
      refine aOut.same (plc' := plc) (skc' := .int a :: m) hM hR.kn ?_ (fun ρ' hr => ⟨(hR ρ' hr).2.1, (hR ρ' hr).2.2⟩)
      show some (Sum.inl (pc + 1, plc, Value.int (a.toUInt32 % 65536).toInt32 :: m, 102, xsh0, M)) = _
      rw [e]
    | false =>
      rw [c] at h
      cases h
      exact aOut.new (plc' := plc) (skc' := .int (a.toUInt32 % 65536).toInt32 :: m) hM rfl (afr_of (q := (0, 65535)) (z := (a.toUInt32 % 65536).toInt32.toInt) hR.kn (i16_b a)) (fun ρ' hr hP => ⟨(hR ρ' hr).2.1, hP, (hR ρ' hr).2.2.2⟩)
  · cases h
def ao_i2l (pc : Nat) (pl : List (Option aV)) (sk : List aV) (K : aKn) : Option (List aT) := match sk with
  | .inl x :: sk => some [(pc + 1, pl, .inr (.inl (some x)) :: sk, K)]
  | _ => none
theorem ao_i2l_of (h : ao_i2l pc pl sk K = some l) (hM : aInv M) (hR : aHR xs L prs M K ρ pl sk plc skc) : aOut xs L prs w M K ρ l (xo_i2l (pc, plc, skc, 102, xsh0, M)) := by
  unfold ao_i2l at h
  split at h
  · rename_i x sk'
    obtain ⟨v, m, e⟩ := astk_cons hR.s
    subst e
    obtain ⟨a, e⟩ := aval_int hR.s.1
    subst e
    cases h
    exact aOut.same (plc' := plc) (skc' := .long a.toInt64 :: m) hM hR.kn rfl (fun ρ' hr => ⟨(hR ρ' hr).2.1, (by
      show a.toInt64.toInt = aev ρ' x
      rw [Int32.toInt_toInt64]
      exact (hR ρ' hr).2.2.1), (hR ρ' hr).2.2.2⟩)
  · cases h
def ao_l2i (pc : Nat) (pl : List (Option aV)) (sk : List aV) (K : aKn) : Option (List aT) := match sk with
  | .inr (.inl o) :: sk => (match o with
    | some x => bif ain32 K x then some [(pc + 1, pl, .inl x :: sk, K)] else some [(pc + 1, pl, .inl (afr K aFull).1 :: sk, (afr K aFull).2)]
    | none => some [(pc + 1, pl, .inl (afr K aFull).1 :: sk, (afr K aFull).2)])
  | _ => none
theorem ao_l2i_of (h : ao_l2i pc pl sk K = some l) (hM : aInv M) (hR : aHR xs L prs M K ρ pl sk plc skc) : aOut xs L prs w M K ρ l (xo_l2i (pc, plc, skc, 102, xsh0, M)) := by
  unfold ao_l2i at h
  split at h
  · rename_i o sk'
    obtain ⟨v, m, e⟩ := astk_cons hR.s
    subst e
    obtain ⟨a, e⟩ := aval_long hR.s.1
    subst e
    have gen : aOut xs L prs w M K ρ [(pc + 1, pl, .inl (afr K aFull).1 :: sk', (afr K aFull).2)] (xo_l2i (pc, plc, .long a :: m, 102, xsh0, M)) :=
      aOut.new (plc' := plc) (skc' := .int a.toInt32 :: m) hM rfl (afr_of (q := aFull) (z := a.toInt32.toInt) hR.kn (aFull_of _)) (fun ρ' hr hP => ⟨(hR ρ' hr).2.1, hP, (hR ρ' hr).2.2.2⟩)
    split at h
    · rename_i x
      cases c : ain32 K x with
      | true =>
        rw [c] at h
        cases h
        exact aOut.same (plc' := plc) (skc' := .int a.toInt32 :: m) hM hR.kn rfl (fun ρ' hr => ⟨(hR ρ' hr).2.1, (by
          show a.toInt32.toInt = aev ρ' x
          have hb := ain32_of (hR.kn ρ' hr) c
          have ha : a.toInt = aev ρ' x := (hR ρ' hr).2.2.1
          rw [Int64.toInt_toInt32, ha, Int.bmod_eq_of_le (by omega) (by omega)]), (hR ρ' hr).2.2.2⟩)
      | false =>
        rw [c] at h
        cases h
        exact gen
    · cases h
      exact gen
  · cases h
def ao_lcmp (pc : Nat) (pl : List (Option aV)) (sk : List aV) (K : aKn) : Option (List aT) := match sk with
  | .inr (.inl (some y)) :: .inr (.inl (some x)) :: sk => some [(pc + 1, pl, .inr (.inr (.inr (x, y))) :: sk, K)]
  | _ => none
theorem ao_lcmp_of (h : ao_lcmp pc pl sk K = some l) (hM : aInv M) (hR : aHR xs L prs M K ρ pl sk plc skc) : aOut xs L prs w M K ρ l (xo_lcmp (pc, plc, skc, 102, xsh0, M)) := by
  unfold ao_lcmp at h
  split at h
  · rename_i y x sk'
    obtain ⟨v, m, e⟩ := astk_cons hR.s
    subst e
    obtain ⟨b, e⟩ := aval_long hR.s.1
    subst e
    obtain ⟨v, m, e⟩ := astk_cons hR.s.2
    subst e
    obtain ⟨a, e⟩ := aval_long hR.s.2.1
    subst e
    cases h
    exact aOut.same (plc' := plc) (skc' := .int (lg_cmp a b) :: m) hM hR.kn rfl (fun ρ' hr => ⟨(hR ρ' hr).2.1, ⟨a, b, rfl, (hR ρ' hr).2.2.2.1, (hR ρ' hr).2.2.1⟩, (hR ρ' hr).2.2.2.2⟩)
  · cases h
-- ---- the stack
def ao_pop (pc : Nat) (pl : List (Option aV)) (sk : List aV) (K : aKn) : Option (List aT) := match sk with
  | a :: sk => bif ac1 a then some [(pc + 1, pl, sk, K)] else none
  | _ => none
theorem xc1_of {a : aV} {v : Value} (h : aval ρ a v) (h1 : ac1 a = true) : xc1 v = true := by
  unfold xc1
  rw [ac1_of h h1]
  rfl
theorem ao_pop_of (h : ao_pop pc pl sk K = some l) (hM : aInv M) (hR : aHR xs L prs M K ρ pl sk plc skc) : aOut xs L prs w M K ρ l (xo_pop (pc, plc, skc, 102, xsh0, M)) := by
  unfold ao_pop at h
  split at h
  · rename_i a sk'
    obtain ⟨v, m, e⟩ := astk_cons hR.s
    subst e
    cases c : ac1 a with
    | false => rw [c] at h; cases h
    | true =>
      rw [c] at h
      cases h
      refine aOut.same (plc' := plc) (skc' := m) hM hR.kn ?_ (fun ρ' hr => ⟨(hR ρ' hr).2.1, (hR ρ' hr).2.2.2⟩)
      simp only [xo_pop, xc1_of hR.s.1 c, cond_true]
  · cases h
def ao_dup (pc : Nat) (pl : List (Option aV)) (sk : List aV) (K : aKn) : Option (List aT) := match sk with
  | a :: sk => bif ac1 a then some [(pc + 1, pl, a :: a :: sk, K)] else none
  | _ => none
theorem ao_dup_of (h : ao_dup pc pl sk K = some l) (hM : aInv M) (hR : aHR xs L prs M K ρ pl sk plc skc) : aOut xs L prs w M K ρ l (xo_dup (pc, plc, skc, 102, xsh0, M)) := by
  unfold ao_dup at h
  split at h
  · rename_i a sk'
    obtain ⟨v, m, e⟩ := astk_cons hR.s
    subst e
    cases c : ac1 a with
    | false => rw [c] at h; cases h
    | true =>
      rw [c] at h
      cases h
      refine aOut.same (plc' := plc) (skc' := v :: v :: m) hM hR.kn ?_ (fun ρ' hr => ⟨(hR ρ' hr).2.1, (hR ρ' hr).2.2.1, (hR ρ' hr).2.2⟩)
      simp only [xo_dup, xc1_of hR.s.1 c, cond_true]
  · cases h
def ao_dup_x1 (pc : Nat) (pl : List (Option aV)) (sk : List aV) (K : aKn) : Option (List aT) := match sk with
  | a :: b :: sk => bif ac1 a && ac1 b then some [(pc + 1, pl, a :: b :: a :: sk, K)] else none
  | _ => none
theorem ao_dup_x1_of (h : ao_dup_x1 pc pl sk K = some l) (hM : aInv M) (hR : aHR xs L prs M K ρ pl sk plc skc) : aOut xs L prs w M K ρ l (xo_dup_x1 (pc, plc, skc, 102, xsh0, M)) := by
  unfold ao_dup_x1 at h
  split at h
  · rename_i a b sk'
    obtain ⟨v, m, e⟩ := astk_cons hR.s
    subst e
    obtain ⟨u, m, e⟩ := astk_cons hR.s.2
    subst e
    cases c : ac1 a && ac1 b with
    | false => rw [c] at h; cases h
    | true =>
      rw [c] at h
      cases h
      rw [Bool.and_eq_true] at c
      refine aOut.same (plc' := plc) (skc' := v :: u :: v :: m) hM hR.kn ?_ (fun ρ' hr => ⟨(hR ρ' hr).2.1, (hR ρ' hr).2.2.1, (hR ρ' hr).2.2.2.1, (hR ρ' hr).2.2.1, (hR ρ' hr).2.2.2.2⟩)
      simp only [xo_dup_x1, xc1_of hR.s.1 c.1, xc1_of hR.s.2.1 c.2, Bool.and_self, cond_true]
  · cases h
def ao_dup_x2 (pc : Nat) (pl : List (Option aV)) (sk : List aV) (K : aKn) : Option (List aT) := match sk with
  | a :: b :: d :: sk => bif ac1 a && ac1 b && ac1 d then some [(pc + 1, pl, a :: b :: d :: a :: sk, K)] else none
  | _ => none
theorem ao_dup_x2_of (h : ao_dup_x2 pc pl sk K = some l) (hM : aInv M) (hR : aHR xs L prs M K ρ pl sk plc skc) : aOut xs L prs w M K ρ l (xo_dup_x2 (pc, plc, skc, 102, xsh0, M)) := by
  unfold ao_dup_x2 at h
  split at h
  · rename_i a b d sk'
    obtain ⟨v, m, e⟩ := astk_cons hR.s
    subst e
    obtain ⟨u, m, e⟩ := astk_cons hR.s.2
    subst e
    obtain ⟨t, m, e⟩ := astk_cons hR.s.2.2
    subst e
    cases c : ac1 a && ac1 b && ac1 d with
    | false => rw [c] at h; cases h
    | true =>
      rw [c] at h
      cases h
      rw [Bool.and_eq_true, Bool.and_eq_true] at c
      refine aOut.same (plc' := plc) (skc' := v :: u :: t :: v :: m) hM hR.kn ?_ (fun ρ' hr => ⟨(hR ρ' hr).2.1, (hR ρ' hr).2.2.1, (hR ρ' hr).2.2.2.1, (hR ρ' hr).2.2.2.2.1, (hR ρ' hr).2.2.1, (hR ρ' hr).2.2.2.2.2⟩)
      simp only [xo_dup_x2, xc1_of hR.s.1 c.1.1, xc1_of hR.s.2.1 c.1.2, xc1_of hR.s.2.2.1 c.2, Bool.and_self, cond_true]
  · cases h
def ao_dup2 (pc : Nat) (pl : List (Option aV)) (sk : List aV) (K : aKn) : Option (List aT) := match sk with
  | a :: b :: sk => bif ac1 a && ac1 b then some [(pc + 1, pl, a :: b :: a :: b :: sk, K)] else none
  | _ => none
theorem ao_dup2_of (h : ao_dup2 pc pl sk K = some l) (hM : aInv M) (hR : aHR xs L prs M K ρ pl sk plc skc) : aOut xs L prs w M K ρ l (xo_dup2 (pc, plc, skc, 102, xsh0, M)) := by
  unfold ao_dup2 at h
  split at h
  · rename_i a b sk'
    obtain ⟨v, m, e⟩ := astk_cons hR.s
    subst e
    obtain ⟨u, m, e⟩ := astk_cons hR.s.2
    subst e
    cases c : ac1 a && ac1 b with
    | false => rw [c] at h; cases h
    | true =>
      rw [c] at h
      cases h
      rw [Bool.and_eq_true] at c
      refine aOut.same (plc' := plc) (skc' := v :: u :: v :: u :: m) hM hR.kn ?_ (fun ρ' hr => ⟨(hR ρ' hr).2.1, (hR ρ' hr).2.2.1, (hR ρ' hr).2.2.2.1, (hR ρ' hr).2.2⟩)
      simp only [xo_dup2, xc1_of hR.s.1 c.1, xc1_of hR.s.2.1 c.2, Bool.and_self, cond_true]
  · cases h
-- ---- jumps
def aT1 (K : aKn) (t : Nat) (pl : List (Option aV)) (sk : List aV) : Option aEF → List aT
  | none => []
  | some q => [(t, pl, sk, aset K q)]
def aneU (K : aKn) (x y : aL) : aKn := match (asub x y).2 with
  | [_] => (K.1, K.2.1, K.2.2.1, K.2.2.2.1, ((21, x, y), aco 0) :: K.2.2.2.2.1, K.2.2.2.2.2)
  | _ => K
theorem aneU_of {x y : aL} (hK : aHK xs L prs M K ρ) (hn : ∀ ρ', agr K.1 ρ ρ' → aev ρ' x ≠ aev ρ' y) : aHK xs L prs M (aneU K x y) ρ ∧ (aneU K x y).1 = K.1 ∧ (aneU K x y).2.1 = K.2.1 ∧ (aneU K x y).2.2.1 = K.2.2.1 := by
  unfold aneU
  split
  · refine ⟨fun ρ' h => ?_, rfl, rfl, rfl⟩
    obtain ⟨k1, k2, k3, k4, k5, k6, k7⟩ := hK ρ' h
    refine ⟨k1, k2, k3, k4, k5, ?_, k7⟩
    intro q hq
    rcases List.mem_cons.mp hq with e | e
    · subst e
      unfold aun1
      rw [if_neg (show ¬ (21 : Nat) = 20 by decide), if_pos rfl]
      exact hn ρ' h
    · exact k6 q e
  · exact ⟨hK, rfl, rfl, rfl⟩
def ao_cond (op : Jvm.ClassFile.Cond) (t f : Nat) (x y : aL) (pl : List (Option aV)) (sk : List aV) (K : aKn) : List aT := match op with
  | .eq => aT1 K t pl sk (aeqR K.2.1 K.2.2.1 x y) ++ aT1 (aneU K x y) f pl sk (aneR K.2.1 K.2.2.1 x y)
  | .ne => aT1 (aneU K x y) t pl sk (aneR K.2.1 K.2.2.1 x y) ++ aT1 K f pl sk (aeqR K.2.1 K.2.2.1 x y)
  | op => aT1 K t pl sk (acmp op K.2.1 K.2.2.1 x y).1 ++ aT1 K f pl sk (acmp op K.2.1 K.2.2.1 x y).2
def aGo (xs : Nat → Int32) (L : Nat) (prs : List (Nat × Nat)) (M : xM) (K : aKn) (ρ : Nat → Int) (pl : List (Option aV)) (sk : List aV) (l : List aT) (pc' : Nat) : Prop := ∃ t ∈ l, t.1 = pc' ∧ t.2.1 = pl ∧ t.2.2.1 = sk ∧ t.2.2.2.1 = K.1 ∧ aHK xs L prs M t.2.2.2 ρ
theorem aT1_of {K' : aKn} {t : Nat} {o : Option aEF} (hn : K'.1 = K.1) (hK : aHK xs L prs M K' ρ) (ho : ∃ q, o = some q ∧ ∀ ρ', agr K.1 ρ ρ' → aEFok ρ' q) : aGo xs L prs M K ρ pl sk (aT1 K' t pl sk o) t := by
  obtain ⟨q, e, hq⟩ := ho
  subst e
  exact ⟨_, List.mem_singleton.mpr rfl, rfl, rfl, rfl, hn, aset_of hK (by rw [hn]; exact hq)⟩
theorem aGo.left {l l' : List aT} {p : Nat} (h : aGo xs L prs M K ρ pl sk l p) : aGo xs L prs M K ρ pl sk (l ++ l') p := by
  obtain ⟨t, h1, h2⟩ := h
  exact ⟨t, List.mem_append_left _ h1, h2⟩
theorem aGo.right {l l' : List aT} {p : Nat} (h : aGo xs L prs M K ρ pl sk l' p) : aGo xs L prs M K ρ pl sk (l ++ l') p := by
  obtain ⟨t, h1, h2⟩ := h
  exact ⟨t, List.mem_append_right _ h1, h2⟩
theorem aGo.out {l : List aT} {p : Nat} {r : xR} (h : aGo xs L prs M K ρ pl sk l p) (hM : aInv M) (hr : r = some (.inl (p, plc, skc, 102, xsh0, M))) (hl : ∀ ρ', agr K.1 ρ ρ' → aloc ρ' pl plc ∧ astk ρ' sk skc) : aOut xs L prs w M K ρ l r := by
  obtain ⟨t, h1, h2, h3, h4, h5, h6⟩ := h
  refine ⟨t, h1, ρ, plc, skc, M, by rw [h2]; exact hr, by rw [h5]; exact Nat.le_refl _, agr_refl _ _, fun ρ' hρ => ?_, hM, aUnw.refl w M⟩
  rw [h3, h4]
  refine ⟨h6 ρ' hρ, hl ρ' ?_⟩
  rw [h5] at hρ
  exact hρ
theorem acmp_sg {P : (Nat → Int) → Prop} {ρ : Nat → Int} {E : aE} {F : List aL} {l1 l2 : aL} {op : Jvm.ClassFile.Cond} {s : Int} {t f : Nat} {X Y : Int32} (hx : ∀ c : Jvm.ClassFile.Cond, xcmp c X Y t f = xcmp c (Int32.ofInt s) 0 t f) (h0 : P ρ) (hE : ∀ ρ', P ρ' → aok ρ' E ∧ afk ρ' F) (hs : ∀ ρ', P ρ' → (if aev ρ' l1 < aev ρ' l2 then (-1 : Int) else if aev ρ' l1 = aev ρ' l2 then 0 else 1) = s) :
    (xcmp op X Y t f = t ∧ ∃ q, (acmp op E F l1 l2).1 = some q ∧ ∀ ρ', P ρ' → aEFok ρ' q) ∨ (xcmp op X Y t f = f ∧ ∃ q, (acmp op E F l1 l2).2 = some q ∧ ∀ ρ', P ρ' → aEFok ρ' q) := by
  have i0 := hs ρ h0
  have k1 : s = -1 → ∀ ρ', P ρ' → aev ρ' l1 < aev ρ' l2 := fun e ρ' h => by
    have := hs ρ' h
    split at this
    · assumption
    · split at this <;> omega
  have k2 : s = 0 → ∀ ρ', P ρ' → aev ρ' l1 = aev ρ' l2 := fun e ρ' h => by
    have := hs ρ' h
    split at this
    · omega
    · split at this
      · assumption
      · omega
  have k3 : s = 1 → ∀ ρ', P ρ' → aev ρ' l2 < aev ρ' l1 := fun e ρ' h => by
    have := hs ρ' h
    split at this
    · omega
    · split at this <;> omega
  rw [hx op]
  have hc : s = -1 ∨ s = 0 ∨ s = 1 := by
    split at i0
    · omega
    · split at i0 <;> omega
  rcases hc with c | c | c
  · have k := k1 c
    have L := altR_all (l1 := l1) (l2 := l2) h0 hE k
    have M := aleR_all (l1 := l1) (l2 := l2) h0 hE (fun ρ' h => Int.le_of_lt (k ρ' h))
    have N := aneR_all (l1 := l1) (l2 := l2) h0 hE (fun ρ' h => Int.ne_of_lt (k ρ' h))
    rw [c]
    cases op with
    | eq => exact Or.inr ⟨rfl, N⟩
    | ne => exact Or.inl ⟨rfl, N⟩
    | lt => exact Or.inl ⟨rfl, L⟩
    | ge => exact Or.inr ⟨rfl, L⟩
    | gt => exact Or.inr ⟨rfl, M⟩
    | le => exact Or.inl ⟨rfl, M⟩
  · have k := k2 c
    have L := aleR_all (l1 := l1) (l2 := l2) h0 hE (fun ρ' h => Int.le_of_eq (k ρ' h))
    have M := aleR_all (l1 := l2) (l2 := l1) h0 hE (fun ρ' h => Int.le_of_eq (k ρ' h).symm)
    have N := aeqR_all (l1 := l1) (l2 := l2) h0 hE k
    rw [c]
    cases op with
    | eq => exact Or.inl ⟨rfl, N⟩
    | ne => exact Or.inr ⟨rfl, N⟩
    | lt => exact Or.inr ⟨rfl, M⟩
    | ge => exact Or.inl ⟨rfl, M⟩
    | gt => exact Or.inr ⟨rfl, L⟩
    | le => exact Or.inl ⟨rfl, L⟩
  · have k := k3 c
    have L := altR_all (l1 := l2) (l2 := l1) h0 hE k
    have M := aleR_all (l1 := l2) (l2 := l1) h0 hE (fun ρ' h => Int.le_of_lt (k ρ' h))
    have N := aneR_all (l1 := l1) (l2 := l2) h0 hE (fun ρ' h => Int.ne_of_gt (k ρ' h))
    rw [c]
    cases op with
    | eq => exact Or.inr ⟨rfl, N⟩
    | ne => exact Or.inl ⟨rfl, N⟩
    | lt => exact Or.inr ⟨rfl, M⟩
    | ge => exact Or.inl ⟨rfl, M⟩
    | gt => exact Or.inl ⟨rfl, L⟩
    | le => exact Or.inr ⟨rfl, L⟩
theorem ao_cond_of {op : Jvm.ClassFile.Cond} {t f : Nat} {x y : aL} {X Y : Int32} {s : Int} (hx : ∀ c : Jvm.ClassFile.Cond, xcmp c X Y t f = xcmp c (Int32.ofInt s) 0 t f) (hK : aHK xs L prs M K ρ) (hs : ∀ ρ', agr K.1 ρ ρ' → (if aev ρ' x < aev ρ' y then (-1 : Int) else if aev ρ' x = aev ρ' y then 0 else 1) = s) : aGo xs L prs M K ρ pl sk (ao_cond op t f x y pl sk K) (xcmp op X Y t f) := by
  have gen : ∀ op, aGo xs L prs M K ρ pl sk (aT1 K t pl sk (acmp op K.2.1 K.2.2.1 x y).1 ++ aT1 K f pl sk (acmp op K.2.1 K.2.2.1 x y).2) (xcmp op X Y t f) := by
    intro op
    rcases acmp_sg (op := op) hx (P := agr K.1 ρ) (agr_refl _ _) hK.EF hs with ⟨e, h⟩ | ⟨e, h⟩
    · rw [e]
      exact (aT1_of rfl hK h).left
    · rw [e]
      exact (aT1_of rfl hK h).right
  have g1 : Int32.ofInt 0 = (0 : Int32) := by decide
  have hsv : s = -1 ∨ s = 0 ∨ s = 1 := by
    have i0 := hs ρ (agr_refl _ _)
    split at i0
    · omega
    · split at i0 <;> omega
  have gs : Int32.ofInt s = 0 ↔ s = 0 := by
    rcases hsv with c | c | c <;> subst c <;> decide
  have hEq : s = 0 → aGo xs L prs M K ρ pl sk (aT1 K t pl sk (aeqR K.2.1 K.2.2.1 x y)) t ∧ aGo xs L prs M K ρ pl sk (aT1 K f pl sk (aeqR K.2.1 K.2.2.1 x y)) f := by
    intro c
    have N := aeqR_all (l1 := x) (l2 := y) (P := agr K.1 ρ) (agr_refl _ _) hK.EF (fun ρ' h => by
      have := hs ρ' h
      split at this
      · omega
      · split at this
        · assumption
        · omega)
    exact ⟨aT1_of rfl hK N, aT1_of rfl hK N⟩
  have hNe : ¬ s = 0 → aGo xs L prs M K ρ pl sk (aT1 (aneU K x y) t pl sk (aneR K.2.1 K.2.2.1 x y)) t ∧ aGo xs L prs M K ρ pl sk (aT1 (aneU K x y) f pl sk (aneR K.2.1 K.2.2.1 x y)) f := by
    intro c
    have hn : ∀ ρ', agr K.1 ρ ρ' → aev ρ' x ≠ aev ρ' y := fun ρ' h z => by
      have := hs ρ' h
      rw [if_neg (by omega), if_pos z] at this
      omega
    have N := aneR_all (l1 := x) (l2 := y) (P := agr K.1 ρ) (agr_refl _ _) hK.EF hn
    have U := aneU_of hK hn
    exact ⟨aT1_of U.2.1 U.1 N, aT1_of U.2.1 U.1 N⟩
  have hv : xcmp .eq X Y t f = (if s = 0 then t else f) ∧ xcmp .ne X Y t f = (if s = 0 then f else t) := by
    rw [hx .eq, hx .ne]
    unfold xcmp
    dsimp only
    by_cases c : s = 0
    · rw [if_pos c, if_pos c, if_pos (gs.mpr c), if_pos (gs.mpr c)]
      exact ⟨rfl, rfl⟩
    · rw [if_neg c, if_neg c, if_neg (fun z => c (gs.mp z)), if_neg (fun z => c (gs.mp z))]
      exact ⟨rfl, rfl⟩
  unfold ao_cond
  cases op with
  | eq =>
    dsimp only
    rw [hv.1]
    by_cases c : s = 0
    · rw [if_pos c]; exact (hEq c).1.left
    · rw [if_neg c]; exact (hNe c).2.right
  | ne =>
    dsimp only
    rw [hv.2]
    by_cases c : s = 0
    · rw [if_pos c]; exact (hEq c).2.right
    · rw [if_neg c]; exact (hNe c).1.left
  | lt => exact gen .lt
  | ge => exact gen .ge
  | gt => exact gen .gt
  | le => exact gen .le
theorem lg_sg {u v u' v' : Int64} (h : lg_cmp u v = lg_cmp u' v') : (if u'.toInt < v'.toInt then (-1 : Int) else if u'.toInt = v'.toInt then 0 else 1) = (if u.toInt < v.toInt then (-1 : Int) else if u.toInt = v.toInt then 0 else 1) := by
  have a1 := lg_lt (u := u) (u' := v)
  have a2 := lg_gt (u := u) (u' := v)
  have b1 := lg_lt (u := u') (u' := v')
  have b2 := lg_gt (u := u') (u' := v')
  rw [h] at a1 a2
  have c1 := a1.symm.trans b1
  have c2 := a2.symm.trans b2
  rw [Int64.lt_iff_toInt_lt, Int64.lt_iff_toInt_lt] at c1 c2
  split <;> split <;> first | rfl | (split <;> first | rfl | omega) | omega
def ao_if (op : Jvm.ClassFile.Cond) (tgt pc : Nat) (pl : List (Option aV)) (sk : List aV) (K : aKn) : Option (List aT) := match sk with
  | .inl x :: sk => some (ao_cond op tgt (pc + 3) x (aco 0) pl sk K)
  | .inr (.inr (.inr c)) :: sk => some (ao_cond op tgt (pc + 3) c.1 c.2 pl sk K)
  | _ => none
theorem ao_if_of {op : Jvm.ClassFile.Cond} {tgt : Nat} (h : ao_if op tgt pc pl sk K = some l) (hM : aInv M) (hR : aHR xs L prs M K ρ pl sk plc skc) : aOut xs L prs w M K ρ l (xo_if op tgt (pc, plc, skc, 102, xsh0, M)) := by
  unfold ao_if at h
  split at h
  · rename_i x sk'
    obtain ⟨v, m, e⟩ := astk_cons hR.s
    subst e
    obtain ⟨a, e⟩ := aval_int hR.s.1
    subst e
    cases h
    exact (ao_cond_of (X := a) (Y := 0) (s := if a.toInt < (0 : Int32).toInt then (-1 : Int) else if a.toInt = (0 : Int32).toInt then 0 else 1) (fun c => xcmp_int c) hR.kn (fun ρ' hr => by
      have e : a.toInt = aev ρ' x := (hR ρ' hr).2.2.1
      rw [aev_co, ← e]
      rfl)).out (plc := plc) (skc := m) hM rfl (fun ρ' hr => ⟨(hR ρ' hr).2.1, (hR ρ' hr).2.2.2⟩)
  · rename_i c sk'
    obtain ⟨v, m, e⟩ := astk_cons hR.s
    subst e
    obtain ⟨a, e⟩ := aval_cmp hR.s.1
    subst e
    cases h
    obtain ⟨u1, u2, e0, -, -⟩ := hR.s.1
    subst e0
    exact (ao_cond_of (X := lg_cmp u1 u2) (Y := 0) (s := if u1.toInt < u2.toInt then (-1 : Int) else if u1.toInt = u2.toInt then 0 else 1) (fun c => xcmp_lg c) hR.kn (fun ρ' hr => by
      obtain ⟨v1, v2, e1, e2, e3⟩ := (hR ρ' hr).2.2.1
      rw [← e2, ← e3]
      exact lg_sg e1)).out (plc := plc) (skc := m) hM rfl (fun ρ' hr => ⟨(hR ρ' hr).2.1, (hR ρ' hr).2.2.2⟩)
  · cases h
def ao_icmp (op : Jvm.ClassFile.Cond) (tgt pc : Nat) (pl : List (Option aV)) (sk : List aV) (K : aKn) : Option (List aT) := match sk with
  | .inl y :: .inl x :: sk => some (ao_cond op tgt (pc + 3) x y pl sk K)
  | _ => none
theorem ao_icmp_of {op : Jvm.ClassFile.Cond} {tgt : Nat} (h : ao_icmp op tgt pc pl sk K = some l) (hM : aInv M) (hR : aHR xs L prs M K ρ pl sk plc skc) : aOut xs L prs w M K ρ l (xo_icmp op tgt (pc, plc, skc, 102, xsh0, M)) := by
  unfold ao_icmp at h
  split at h
  · rename_i y x sk'
    obtain ⟨v, m, e⟩ := astk_cons hR.s
    subst e
    obtain ⟨b, e⟩ := aval_int hR.s.1
    subst e
    obtain ⟨v, m, e⟩ := astk_cons hR.s.2
    subst e
    obtain ⟨a, e⟩ := aval_int hR.s.2.1
    subst e
    cases h
    exact (ao_cond_of (X := a) (Y := b) (s := if a.toInt < b.toInt then (-1 : Int) else if a.toInt = b.toInt then 0 else 1) (fun c => xcmp_int c) hR.kn (fun ρ' hr => by
      have e1 : a.toInt = aev ρ' x := (hR ρ' hr).2.2.2.1
      have e2 : b.toInt = aev ρ' y := (hR ρ' hr).2.2.1
      rw [← e1, ← e2])).out (plc := plc) (skc := m) hM rfl (fun ρ' hr => ⟨(hR ρ' hr).2.1, (hR ρ' hr).2.2.2.2⟩)
  · cases h
def ao_goto (tgt : Nat) (pl : List (Option aV)) (sk : List aV) (K : aKn) : Option (List aT) := some [(tgt, pl, sk, K)]
theorem ao_goto_of {tgt : Nat} (h : ao_goto tgt pl sk K = some l) (hM : aInv M) (hR : aHR xs L prs M K ρ pl sk plc skc) : aOut xs L prs w M K ρ l (xo_goto tgt (pc, plc, skc, 102, xsh0, M)) := by
  cases h
  exact aOut.same hM hR.kn rfl (fun ρ' hr => (hR ρ' hr).2)
-- ---- switches
def atab (pc : Nat) (x : aL) (pl : List (Option aV)) (sk : List aV) (K : aKn) : List Int → Int → Option (List aT)
  | [], _ => some []
  | off :: l, v => match atab pc x pl sk K l (v + 1), aeqR K.2.1 K.2.2.1 x (aco v) with
    | none, _ => none
    | some r, none => some r
    | some r, some q => (match xtgt pc off with
      | some t => some ((t, pl, sk, aset K q) :: r)
      | none => none)
theorem aGo.cons {t0 : aT} {l : List aT} {p : Nat} (h : aGo xs L prs M K ρ pl sk l p) : aGo xs L prs M K ρ pl sk (t0 :: l) p := by
  obtain ⟨t, h1, h2⟩ := h
  exact ⟨t, List.mem_cons_of_mem _ h1, h2⟩
theorem atab_of {x : aL} {off : Int} (hK : aHK xs L prs M K ρ) : ∀ {offs : List Int} {v : Int} {l : List aT} {j : Nat}, atab pc x pl sk K offs v = some l → offs[j]? = some off → (∀ ρ', agr K.1 ρ ρ' → aev ρ' x = v + (j : Int)) → ∃ t, xtgt pc off = some t ∧ aGo xs L prs M K ρ pl sk l t
  | [], _, _, _, _, e, _ => by cases e
  | o :: offs, v, l, 0, h, e, hx => by
    cases e
    unfold atab at h
    obtain ⟨q, eq, hq⟩ := aeqR_all (l1 := x) (l2 := aco v) (P := agr K.1 ρ) (agr_refl _ _) hK.EF (fun ρ' hr => by rw [aev_co]; have := hx ρ' hr; omega)
    rw [eq] at h
    split at h
    · cases h
    · rename_i e2
      cases e2
    · rename_i r q' e1 e2
      cases e2
      split at h
      · rename_i t et
        cases h
        exact ⟨t, et, _, List.mem_cons_self .., rfl, rfl, rfl, rfl, aset_of hK hq⟩
      · cases h
  | o :: offs, v, l, j + 1, h, e, hx => by
    rw [List.getElem?_cons_succ] at e
    unfold atab at h
    have hx' : ∀ ρ', agr K.1 ρ ρ' → aev ρ' x = v + 1 + (j : Int) := fun ρ' hr => by have := hx ρ' hr; omega
    split at h
    · cases h
    · rename_i r e1 e2
      cases h
      exact atab_of hK e1 e hx'
    · rename_i r q' e1 e2
      split at h
      · cases h
        obtain ⟨t, h1, h2⟩ := atab_of hK e1 e hx'
        exact ⟨t, h1, h2.cons⟩
      · cases h
def ao_tab (d lo hi : Int) (offs : List Int) (pc : Nat) (pl : List (Option aV)) (sk : List aV) (K : aKn) : Option (List aT) := match sk with
  | .inl x :: sk => bif ileb (hi - lo + 1) offs.length then (match atab pc x pl sk K offs lo, xtgt pc d with
    | some l, some t => some (aT1 K t pl sk (altR K.2.1 K.2.2.1 x (aco lo)) ++ (aT1 K t pl sk (altR K.2.1 K.2.2.1 (aco hi) x) ++ l))
    | _, _ => none) else none
  | _ => none
theorem ao_tab_of {d lo hi : Int} {offs : Array Int} (h : ao_tab d lo hi offs.toList pc pl sk K = some l) (hM : aInv M) (hR : aHR xs L prs M K ρ pl sk plc skc) : aOut xs L prs w M K ρ l (xo_tab d lo hi offs (pc, plc, skc, 102, xsh0, M)) := by
  unfold ao_tab at h
  split at h
  · rename_i x sk'
    obtain ⟨v, m, e⟩ := astk_cons hR.s
    subst e
    obtain ⟨a, e⟩ := aval_int hR.s.1
    subst e
    have hx : ∀ ρ', agr K.1 ρ ρ' → a.toInt = aev ρ' x := fun ρ' hr => (hR ρ' hr).2.2.1
    cases c : ileb (hi - lo + 1) offs.toList.length with
    | false => rw [c] at h; cases h
    | true =>
      rw [c] at h
      rw [ileb_iff] at c
      dsimp only [cond_true] at h
      split at h
      · rename_i l0 t e1 e2
        cases h
        have hgo : ∃ p, xtab pc d lo hi offs a = some p ∧ aGo xs L prs M K ρ pl sk' (aT1 K t pl sk' (altR K.2.1 K.2.2.1 x (aco lo)) ++ (aT1 K t pl sk' (altR K.2.1 K.2.2.1 (aco hi) x) ++ l0)) p := by
          unfold xtab
          by_cases c1 : a.toInt < lo
          · rw [if_pos (Or.inl c1)]
            exact ⟨t, e2, (aT1_of rfl hR.kn (altR_all (P := agr K.1 ρ) (agr_refl _ _) hR.kn.EF (fun ρ' hr => by rw [aev_co, ← hx ρ' hr]; exact c1))).left⟩
          · by_cases c2 : hi < a.toInt
            · rw [if_pos (Or.inr c2)]
              exact ⟨t, e2, (aT1_of rfl hR.kn (altR_all (P := agr K.1 ρ) (agr_refl _ _) hR.kn.EF (fun ρ' hr => by rw [aev_co, ← hx ρ' hr]; exact c2))).left.right⟩
            · rw [if_neg (by omega)]
              have hj : (a.toInt - lo).toNat < offs.toList.length := by omega
              have e3 : offs[(a.toInt - lo).toNat]? = some (offs.toList[(a.toInt - lo).toNat]) := by
                rw [← Array.getElem?_toList, List.getElem?_eq_getElem hj]
              rw [e3]
              obtain ⟨p, h1, h2⟩ := atab_of hR.kn e1 (List.getElem?_eq_getElem hj) (fun ρ' hr => by rw [← hx ρ' hr]; omega)
              exact ⟨p, h1, h2.right.right⟩
        obtain ⟨p, h1, h2⟩ := hgo
        refine h2.out (plc := plc) (skc := m) hM ?_ (fun ρ' hr => ⟨(hR ρ' hr).2.1, (hR ρ' hr).2.2.2⟩)
        simp only [xo_tab, h1]
      · cases h
  · cases h
def alook (pc : Nat) (x : aL) (pl : List (Option aV)) (sk : List aV) (d : Int) : List (Int × Int) → aKn → Option (List aT)
  | [], K => (match xtgt pc d with
    | some t => some [(t, pl, sk, K)]
    | none => none)
  | q :: l, K => match (match asetO (aneU K x (aco q.1)) (aneR K.2.1 K.2.2.1 x (aco q.1)) with
      | some K' => alook pc x pl sk d l K'
      | none => some []), xtgt pc q.2 with
    | some r, some t => some (aT1 K t pl sk (aeqR K.2.1 K.2.2.1 x (aco q.1)) ++ r)
    | _, _ => none
theorem alook_of {x : aL} {d : Int} {a : Int32} : ∀ {ps : List (Int × Int)} {K : aKn} {l : List aT}, aHK xs L prs M K ρ → (∀ ρ', agr K.1 ρ ρ' → a.toInt = aev ρ' x) → alook pc x pl sk d ps K = some l → ∃ t, xtgt pc (Op.lookupswitch.offset ps d a.toInt) = some t ∧ aGo xs L prs M K ρ pl sk l t
  | [], K, l, hK, _, h => by
    unfold alook at h
    split at h
    · rename_i t e
      cases h
      exact ⟨t, e, _, List.mem_singleton.mpr rfl, rfl, rfl, rfl, rfl, hK⟩
    · cases h
  | q :: ps, K, l, hK, hx, h => by
    obtain ⟨k, o⟩ := q
    unfold alook at h
    rw [Op.lookupswitch.offset_cons]
    split at h
    · rename_i r t e1 e2
      cases h
      by_cases c : k = a.toInt
      · rw [if_pos c]
        exact ⟨t, e2, (aT1_of rfl hK (aeqR_all (P := agr K.1 ρ) (agr_refl _ _) hK.EF (fun ρ' hr => by rw [aev_co, ← hx ρ' hr]; exact c.symm))).left⟩
      · rw [if_neg c]
        have hn : ∀ ρ', agr K.1 ρ ρ' → aev ρ' x ≠ aev ρ' (aco k) := fun ρ' hr => by rw [aev_co, ← hx ρ' hr]; exact fun z => c z.symm
        have U := aneU_of hK hn
        obtain ⟨K', f1, f2, f3⟩ := asetO_of (K := aneU K x (aco k)) U.1 (by
          rw [U.2.1]
          exact aneR_all (l1 := x) (l2 := aco k) (P := agr K.1 ρ) (agr_refl _ _) hK.EF hn)
        have e1 : (match asetO (aneU K x (aco k)) (aneR K.2.1 K.2.2.1 x (aco k)) with
          | some K' => alook pc x pl sk d ps K'
          | none => some []) = some r := e1
        rw [f1] at e1
        have hn1 : K'.1 = K.1 := f2.1.trans U.2.1
        obtain ⟨p, h1, h2⟩ := alook_of (ps := ps) (K := K') f3 (by rw [hn1]; exact hx) e1
        refine ⟨p, h1, aGo.right ?_⟩
        obtain ⟨tt, g1, g2, g3, g4, g5, g6⟩ := h2
        exact ⟨tt, g1, g2, g3, g4, g5.trans hn1, g6⟩
    · cases h
def ao_look (d : Int) (ps : List (Int × Int)) (pc : Nat) (pl : List (Option aV)) (sk : List aV) (K : aKn) : Option (List aT) := match sk with
  | .inl x :: sk => bif (ps.zip (ps.drop 1)).all (fun (a, next) => a.1 < next.1) then alook pc x pl sk d ps K else none
  | _ => none
theorem ao_look_of {d : Int} {ps : Array (Int × Int)} (h : ao_look d ps.toList pc pl sk K = some l) (hM : aInv M) (hR : aHR xs L prs M K ρ pl sk plc skc) : aOut xs L prs w M K ρ l (xo_look d ps (pc, plc, skc, 102, xsh0, M)) := by
  unfold ao_look at h
  split at h
  · rename_i x sk'
    obtain ⟨v, m, e⟩ := astk_cons hR.s
    subst e
    obtain ⟨a, e⟩ := aval_int hR.s.1
    subst e
    rw [Bool.cond_eq_ite] at h
    split at h
    · rename_i hc
      obtain ⟨t, h1, h2⟩ := alook_of (a := a) hR.kn (fun ρ' hr => (hR ρ' hr).2.2.1) h
      refine h2.out (plc := plc) (skc := m) hM ?_ (fun ρ' hr => ⟨(hR ρ' hr).2.1, (hR ρ' hr).2.2.2⟩)
      simp only [xo_look, h1, hc, cond_true]
    · cases h
  · cases h
end AOP3
