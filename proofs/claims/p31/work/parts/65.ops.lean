/-! THE ANALYZER, four: instructions -/
section AOP2
variable {xs : Nat → Int32} {L : Nat} {prs : List (Nat × Nat)} {w : aW} {M : xM} {K : aKn} {ρ : Nat → Int} {pl : List (Option aV)} {sk : List aV} {plc : List (Option Value)} {skc : List Value}
def aHR (xs : Nat → Int32) (L : Nat) (prs : List (Nat × Nat)) (M : xM) (K : aKn) (ρ : Nat → Int) (pl : List (Option aV)) (sk : List aV) (plc : List (Option Value)) (skc : List Value) : Prop := ∀ ρ', agr K.1 ρ ρ' → aKok xs L prs aRws ρ' K M ∧ aloc ρ' pl plc ∧ astk ρ' sk skc
def aOut (xs : Nat → Int32) (L : Nat) (prs : List (Nat × Nat)) (w : aW) (M : xM) (K : aKn) (ρ : Nat → Int) (l : List aT) (r : xR) : Prop := ∃ t ∈ l, ∃ ρ2 plc skc M', r = some (.inl (t.1, plc, skc, 102, xsh0, M')) ∧ K.1 ≤ t.2.2.2.1 ∧ agr K.1 ρ ρ2 ∧ aHR xs L prs M' t.2.2.2 ρ2 t.2.1 t.2.2.1 plc skc ∧ aInv M' ∧ aUnw w M M'
theorem aHR.kn (h : aHR xs L prs M K ρ pl sk plc skc) : aHK xs L prs M K ρ := fun ρ' hr => (h ρ' hr).1
theorem aHR.l (h : aHR xs L prs M K ρ pl sk plc skc) : aloc ρ pl plc := (h ρ (agr_refl _ _)).2.1
theorem aHR.s (h : aHR xs L prs M K ρ pl sk plc skc) : astk ρ sk skc := (h ρ (agr_refl _ _)).2.2
/-- new knowledge, memory as it was -/
theorem aOut.new {pc' : Nat} {pl' : List (Option aV)} {sk' : List aV} {K' : aKn} {plc' : List (Option Value)} {skc' : List Value} {r : xR} {P : (Nat → Int) → Prop} (hM : aInv M) (hr : r = some (.inl (pc', plc', skc', 102, xsh0, M))) (hN : aNew xs L prs M K ρ K' P) (hl : ∀ ρ', agr K.1 ρ ρ' → P ρ' → aloc ρ' pl' plc' ∧ astk ρ' sk' skc') : aOut xs L prs w M K ρ [(pc', pl', sk', K')] r := by
  obtain ⟨ρ2, h1, h2, h3⟩ := hN
  refine ⟨_, List.mem_singleton.mpr rfl, ρ2, plc', skc', M, hr, h1, h2, fun ρ' hρ => ?_, hM, aUnw.refl w M⟩
  have hρ0 : agr K.1 ρ ρ' := agr_trans h1 h2 hρ
  exact ⟨(h3 ρ' hρ).1, hl ρ' hρ0 (h3 ρ' hρ).2⟩
theorem aOut.same {pc' : Nat} {pl' : List (Option aV)} {sk' : List aV} {plc' : List (Option Value)} {skc' : List Value} {r : xR} (hM : aInv M) (hK : aHK xs L prs M K ρ) (hr : r = some (.inl (pc', plc', skc', 102, xsh0, M))) (hl : ∀ ρ', agr K.1 ρ ρ' → aloc ρ' pl' plc' ∧ astk ρ' sk' skc') : aOut xs L prs w M K ρ [(pc', pl', sk', K)] r :=
  aOut.new hM hr (aNew.same (P := fun _ => True) hK (fun _ _ => trivial)) (fun ρ' h _ => hl ρ' h)
-- ---- constants, locals
def ao_push (a : aV) (len pc : Nat) (pl : List (Option aV)) (sk : List aV) (K : aKn) : Option (List aT) := some [(pc + len, pl, a :: sk, K)]
theorem ao_push_of {a : aV} {v : Value} {len pc : Nat} {l : List aT} (hv : ∀ ρ, aval ρ a v) (h : ao_push a len pc pl sk K = some l) (hM : aInv M) (hR : aHR xs L prs M K ρ pl sk plc skc) : aOut xs L prs w M K ρ l (xo_const v len (pc, plc, skc, 102, xsh0, M)) := by
  cases h
  exact aOut.same hM hR.kn rfl (fun ρ' hr => ⟨(hR ρ' hr).2.1, hv ρ', (hR ρ' hr).2.2⟩)
def aldk (k : Nat) : aV → Bool
  | .inl _ => Nat.beq k 0
  | .inr (.inl _) => Nat.beq k 1
  | .inr (.inr (.inl p)) => Nat.beq k 2 && Nat.ble (p + 1) 3000
  | _ => false
def ao_load (k i len pc : Nat) (pl : List (Option aV)) (sk : List aV) (K : aKn) : Option (List aT) := match pl[i]? with
  | some (some a) => bif aldk k a then some [(pc + len, pl, a :: sk, K)] else none
  | _ => none
def xo_ld (k i len : Nat) : xS → xR := match k with
  | 0 => xo_iload i len
  | 1 => xo_lload i len
  | _ => xo_aload i len
theorem aloc_getA {i : Nat} {a : aV} (hR : aHR xs L prs M K ρ pl sk plc skc) (e : pl[i]? = some (some a)) : ∃ v, plc[i]? = some (some v) ∧ ∀ ρ', agr K.1 ρ ρ' → aval ρ' a v := by
  obtain ⟨v, e1, -⟩ := aloc_get hR.l e
  refine ⟨v, e1, fun ρ' hr => ?_⟩
  obtain ⟨v', e2, h⟩ := aloc_get (hR ρ' hr).2.1 e
  rw [e1] at e2
  cases e2
  exact h
theorem ao_load_of {k i len pc : Nat} {l : List aT} (h : ao_load k i len pc pl sk K = some l) (hM : aInv M) (hR : aHR xs L prs M K ρ pl sk plc skc) : aOut xs L prs w M K ρ l (xo_ld k i len (pc, plc, skc, 102, xsh0, M)) := by
  unfold ao_load at h
  split at h
  · rename_i a e
    obtain ⟨v, e1, hv⟩ := aloc_getA hR e
    have h0 := hv ρ (agr_refl _ _)
    have fin : ∀ (r : xR), r = some (.inl (pc + len, plc, v :: skc, 102, xsh0, M)) → aOut xs L prs w M K ρ [(pc + len, pl, a :: sk, K)] r := fun _ hr => aOut.same hM hR.kn hr (fun ρ' hρ => ⟨(hR ρ' hρ).2.1, hv ρ' hρ, (hR ρ' hρ).2.2⟩)
    cases hc : aldk k a with
    | false => rw [hc] at h; cases h
    | true =>
      rw [hc] at h
      cases h
      match a, hc, h0, fin with
      | .inl _, hc, h0, fin =>
        have ek := Nat.eq_of_beq_eq_true hc
        subst ek
        obtain ⟨x, ev⟩ := aval_int h0
        subst ev
        refine fin _ ?_
        show xo_iload i len (pc, plc, skc, 102, xsh0, M) = _
        simp only [xo_iload, e1]
      | .inr (.inl _), hc, h0, fin =>
        have ek := Nat.eq_of_beq_eq_true hc
        subst ek
        obtain ⟨x, ev⟩ := aval_long h0
        subst ev
        refine fin _ ?_
        show xo_lload i len (pc, plc, skc, 102, xsh0, M) = _
        simp only [xo_lload, e1]
      | .inr (.inr (.inl p)), hc, h0, fin =>
        have hc : (Nat.beq k 2 && Nat.ble (p + 1) 3000) = true := hc
        rw [Bool.and_eq_true] at hc
        have ek := Nat.eq_of_beq_eq_true hc.1
        subst ek
        have ev := aval_ref h0
        subst ev
        refine fin _ ?_
        show xo_aload i len (pc, plc, skc, 102, xsh0, M) = _
        have hp := Nat.le_of_ble_eq_true hc.2
        have hp2 : Nat.ble 3000 p = false := by
          cases c : Nat.ble 3000 p with
          | false => rfl
          | true => have := Nat.le_of_ble_eq_true c; omega
        simp only [xo_aload, e1, hp2, cond_false]
      | .inr (.inr (.inr _)), hc, _, _ => cases hc
  · cases h
def ao_istore (i len pc : Nat) (pl : List (Option aV)) (sk : List aV) (K : aKn) : Option (List aT) := match sk with
  | .inl l :: sk => bif axok pl i then some [(pc + len, pl.set i (some (.inl l)), sk, K)] else none
  | _ => none
theorem ao_istore_of {i len pc : Nat} {l : List aT} (h : ao_istore i len pc pl sk K = some l) (hM : aInv M) (hR : aHR xs L prs M K ρ pl sk plc skc) : aOut xs L prs w M K ρ l (xo_istore i len (pc, plc, skc, 102, xsh0, M)) := by
  unfold ao_istore at h
  split at h
  · rename_i x sk'
    obtain ⟨v, m, e⟩ := astk_cons hR.s
    subst e
    obtain ⟨z, e⟩ := aval_int hR.s.1
    subst e
    rw [Bool.cond_eq_ite] at h
    split at h
    · rename_i hc
      cases h
      refine aOut.same (plc' := plc.set i (some (.int z))) (skc' := m) hM hR.kn ?_ (fun ρ' hr => ⟨aloc_set (hR ρ' hr).2.2.1 (hR ρ' hr).2.1, (hR ρ' hr).2.2.2⟩)
      simp only [xo_istore, axok_of hR.l hc, cond_true]
    · cases h
  · cases h
def ao_astore (i len pc : Nat) (pl : List (Option aV)) (sk : List aV) (K : aKn) : Option (List aT) := match sk with
  | .inr (.inr (.inl p)) :: sk => bif axok pl i && Nat.ble (p + 1) 3000 then some [(pc + len, pl.set i (some (.inr (.inr (.inl p)))), sk, K)] else none
  | _ => none
theorem ao_astore_of {i len pc : Nat} {l : List aT} (h : ao_astore i len pc pl sk K = some l) (hM : aInv M) (hR : aHR xs L prs M K ρ pl sk plc skc) : aOut xs L prs w M K ρ l (xo_astore i len (pc, plc, skc, 102, xsh0, M)) := by
  unfold ao_astore at h
  split at h
  · rename_i p sk'
    obtain ⟨v, m, e⟩ := astk_cons hR.s
    subst e
    have e := aval_ref hR.s.1
    subst e
    rw [Bool.cond_eq_ite] at h
    split at h
    · rename_i hc
      cases h
      rw [Bool.and_eq_true] at hc
      refine aOut.same (plc' := plc.set i (some (.ref p))) (skc' := m) hM hR.kn ?_ (fun ρ' hr => ⟨aloc_set (hR ρ' hr).2.2.1 (hR ρ' hr).2.1, (hR ρ' hr).2.2.2⟩)
      simp only [xo_astore, axok_of hR.l hc.1, hc.2, Bool.and_self, cond_true]
    · cases h
  · cases h
def ao_iinc (i : Nat) (n : Int) (len pc : Nat) (pl : List (Option aV)) (sk : List aV) (K : aKn) : Option (List aT) := match pl[i]? with
  | some (some (.inl x)) => bif axok pl i && Nat.beq len 3 then some [(pc + 3, pl.set i (some (.inl (anm K (aadd x (aco (Int32.ofInt n).toInt))).1)), sk, (anm K (aadd x (aco (Int32.ofInt n).toInt))).2)] else none
  | _ => none
theorem i32_add {x y : Int32} {u v : Int} (hx : x.toInt = u) (hy : y.toInt = v) (h1 : -2147483648 ≤ u + v) (h2 : u + v ≤ 2147483647) : (x + y).toInt = u + v := by
  rw [Int32.toInt_add, hx, hy, Int.bmod_eq_of_le (by omega) (by omega)]
theorem i32_sub {x y : Int32} {u v : Int} (hx : x.toInt = u) (hy : y.toInt = v) (h1 : -2147483648 ≤ u - v) (h2 : u - v ≤ 2147483647) : (x - y).toInt = u - v := by
  rw [Int32.toInt_sub, hx, hy, Int.bmod_eq_of_le (by omega) (by omega)]
theorem i32_mul {x y : Int32} {u v : Int} (hx : x.toInt = u) (hy : y.toInt = v) (h1 : -2147483648 ≤ u * v) (h2 : u * v ≤ 2147483647) : (x * y).toInt = u * v := by
  rw [Int32.toInt_mul, hx, hy, Int.bmod_eq_of_le (by omega) (by omega)]
theorem ao_iinc_of {i : Nat} {n : Int} {len pc : Nat} {l : List aT} (h : ao_iinc i n len pc pl sk K = some l) (hM : aInv M) (hR : aHR xs L prs M K ρ pl sk plc skc) : aOut xs L prs w M K ρ l (xo_iinc i n len (pc, plc, skc, 102, xsh0, M)) := by
  unfold ao_iinc at h
  split at h
  · rename_i x e
    obtain ⟨v, e1, hv⟩ := aloc_getA hR e
    obtain ⟨z, ev⟩ := aval_int (hv ρ (agr_refl _ _))
    subst ev
    rw [Bool.cond_eq_ite] at h
    split at h
    · rename_i hc
      cases h
      rw [Bool.and_eq_true] at hc
      refine aOut.new (plc' := plc.set i (some (.int (z + Int32.ofInt n)))) (skc' := skc) hM ?_ (anm_of (z := z + Int32.ofInt n) hR.kn (fun ρ' hr h1 h2 => ?_)) (fun ρ' hr hP => ⟨aloc_set (a := .inl (anm K (aadd x (aco (Int32.ofInt n).toInt))).1) (w := .int (z + Int32.ofInt n)) hP (hR ρ' hr).2.1, (hR ρ' hr).2.2⟩)
      · simp only [xo_iinc, e1, axok_of hR.l hc.1, hc.2, Bool.and_self, cond_true]
      · have hz : z.toInt = aev ρ' x := hv ρ' hr
        rw [aev_add, aev_co] at h1 h2 ⊢
        exact i32_add hz rfl h1 h2
    · cases h
  · cases h
-- ---- two numbers
def ao_bin (f : aKn → aL → aL → Option (aL × aKn)) (pc : Nat) (pl : List (Option aV)) (sk : List aV) (K : aKn) : Option (List aT) := match sk with
  | .inl y :: .inl x :: sk => (match f K x y with
    | some q => some [(pc + 1, pl, .inl q.1 :: sk, q.2)]
    | none => none)
  | _ => none
theorem ao_bin_of {f : aKn → aL → aL → Option (aL × aKn)} {g : Int32 → Int32 → Int32} {dv : Bool} {pc : Nat} {l : List aT} (h : ao_bin f pc pl sk K = some l) (hM : aInv M) (hR : aHR xs L prs M K ρ pl sk plc skc)
    (hf : ∀ (x y : aL) (a b : Int32) (q : aL × aKn), f K x y = some q → (∀ ρ', agr K.1 ρ ρ' → a.toInt = aev ρ' x) → (∀ ρ', agr K.1 ρ ρ' → b.toInt = aev ρ' y) → (dv = true → b ≠ 0) ∧ aNew xs L prs M K ρ q.2 (fun ρ' => (g a b).toInt = aev ρ' q.1)) :
    aOut xs L prs w M K ρ l (match dv with
      | false => xo_bin g (pc, plc, skc, 102, xsh0, M)
      | true => xo_div g (pc, plc, skc, 102, xsh0, M)) := by
  unfold ao_bin at h
  split at h
  · rename_i y x sk'
    obtain ⟨v, m, e⟩ := astk_cons hR.s
    subst e
    obtain ⟨b, e⟩ := aval_int hR.s.1
    subst e
    obtain ⟨v, m, e⟩ := astk_cons hR.s.2
    subst e
    obtain ⟨a, e⟩ := aval_int hR.s.2.1
    subst e
    split at h
    · rename_i q eq
      cases h
      obtain ⟨h1, h2⟩ := hf x y a b q eq (fun ρ' hr => (hR ρ' hr).2.2.2.1) (fun ρ' hr => (hR ρ' hr).2.2.1)
      refine aOut.new (plc' := plc) (skc' := .int (g a b) :: m) hM ?_ h2 (fun ρ' hr hP => ⟨(hR ρ' hr).2.1, hP, (hR ρ' hr).2.2.2.2⟩)
      cases dv with
      | false => rfl
      | true =>
        show xo_div g _ = _
        simp only [xo_div, if_neg (h1 rfl)]
    · cases h
  · cases h
def af_add (K : aKn) (x y : aL) : Option (aL × aKn) := some (anm K (aadd x y))
def af_sub (K : aKn) (x y : aL) : Option (aL × aKn) := some (anm K (asub x y))
def af_mul (K : aKn) (x y : aL) : Option (aL × aKn) := match y.2 with
  | [] => some (anm K (amul y.1 x))
  | _ => match x.2 with
    | [] => some (anm K (amul x.1 y))
    | _ => some (anl K 0 x y)
def af_nl (o : Nat) (K : aKn) (x y : aL) : Option (aL × aKn) := bif Nat.beq o 5 && aeql y (aco 0) then some (x, K) else bif Nat.ble o 6 then some (anl K o x y) else match y.2 with
  | [] => bif ileb 1 y.1 && Nat.ble o 8 then some (anl K o x y) else none
  | _ => none
section AFF
variable {x y : aL} {a b : Int32} {q : aL × aKn}
theorem af_add_of (hK : aHK xs L prs M K ρ) (h : af_add K x y = some q) (ha : ∀ ρ', agr K.1 ρ ρ' → a.toInt = aev ρ' x) (hb : ∀ ρ', agr K.1 ρ ρ' → b.toInt = aev ρ' y) : aNew xs L prs M K ρ q.2 (fun ρ' => (a + b).toInt = aev ρ' q.1) := by
  cases h
  exact anm_of hK (fun ρ' hr h1 h2 => by rw [aev_add] at h1 h2 ⊢; exact i32_add (ha ρ' hr) (hb ρ' hr) h1 h2)
theorem af_sub_of (hK : aHK xs L prs M K ρ) (h : af_sub K x y = some q) (ha : ∀ ρ', agr K.1 ρ ρ' → a.toInt = aev ρ' x) (hb : ∀ ρ', agr K.1 ρ ρ' → b.toInt = aev ρ' y) : aNew xs L prs M K ρ q.2 (fun ρ' => (a - b).toInt = aev ρ' q.1) := by
  cases h
  exact anm_of hK (fun ρ' hr h1 h2 => by rw [aev_sub] at h1 h2 ⊢; exact i32_sub (ha ρ' hr) (hb ρ' hr) h1 h2)
theorem af_mul_of (hK : aHK xs L prs M K ρ) (h : af_mul K x y = some q) (ha : ∀ ρ', agr K.1 ρ ρ' → a.toInt = aev ρ' x) (hb : ∀ ρ', agr K.1 ρ ρ' → b.toInt = aev ρ' y) : aNew xs L prs M K ρ q.2 (fun ρ' => (a * b).toInt = aev ρ' q.1) := by
  unfold af_mul at h
  split at h
  · rename_i e
    cases h
    exact anm_of hK (fun ρ' hr h1 h2 => by
      rw [aev_mul, Int.mul_comm] at h1 h2 ⊢
      exact i32_mul (ha ρ' hr) ((hb ρ' hr).trans (aev_nil e)) h1 h2)
  · split at h
    · rename_i e
      cases h
      exact anm_of hK (fun ρ' hr h1 h2 => by
        rw [aev_mul] at h1 h2 ⊢
        exact i32_mul ((ha ρ' hr).trans (aev_nil e)) (hb ρ' hr) h1 h2)
    · cases h
      exact anl_of (o := 0) (by decide) hK ha hb
theorem i32_shr0 (a : Int32) : a >>> ((0 : Int32) &&& 31) = a := by
  have e : ((0 : Int32) &&& 31) = 0 := by decide
  rw [e]
  apply Int32.toBitVec_inj.mp
  simp
theorem af_nl_of {o : Nat} (hK : aHK xs L prs M K ρ) (h : af_nl o K x y = some q) (ha : ∀ ρ', agr K.1 ρ ρ' → a.toInt = aev ρ' x) (hb : ∀ ρ', agr K.1 ρ ρ' → b.toInt = aev ρ' y) : (Nat.ble 7 o = true → b ≠ 0) ∧ aNew xs L prs M K ρ q.2 (fun ρ' => (aopf o a b).toInt = aev ρ' q.1) := by
  unfold af_nl at h
  cases c : Nat.beq o 5 && aeql y (aco 0) with
  | true =>
    rw [c] at h
    rw [Bool.and_eq_true] at c
    cases h
    have e := Nat.eq_of_beq_eq_true c.1
    subst e
    have e2 := aeql_of c.2
    refine ⟨fun z => (by cases z), aNew.same hK (fun ρ' hr => ?_)⟩
    have h1 := hb ρ' hr
    rw [e2, aev_co] at h1
    have h2 : b = 0 := Int32.toInt_inj.mp h1
    subst h2
    show (a >>> ((0 : Int32) &&& 31)).toInt = _
    rw [i32_shr0]
    exact ha ρ' hr
  | false =>
    rw [c] at h
    cases c2 : Nat.ble o 6 with
    | true =>
      rw [c2] at h
      cases h
      have := Nat.le_of_ble_eq_true c2
      refine ⟨fun z => ?_, anl_of (by omega) hK ha hb⟩
      have := Nat.le_of_ble_eq_true z
      omega
    | false =>
      rw [c2] at h
      dsimp only [cond_false] at h
      split at h
      · rename_i e
        cases c3 : ileb 1 y.1 && Nat.ble o 8 with
        | false => rw [c3] at h; cases h
        | true =>
          rw [c3] at h
          cases h
          rw [Bool.and_eq_true, ileb_iff] at c3
          have := Nat.le_of_ble_eq_true c3.2
          refine ⟨fun _ z => ?_, anl_of (by omega) hK ha hb⟩
          have h1 := hb ρ (agr_refl _ _)
          rw [aev_nil e, z] at h1
          have : (0 : Int32).toInt = 0 := by decide
          omega
      · cases h
end AFF
end AOP2
