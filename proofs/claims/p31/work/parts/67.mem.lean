/-! THE ANALYZER, six: memory -/
section AOP4
variable {xs : Nat → Int32} {L : Nat} {prs : List (Nat × Nat)} {w : aW} {M : xM} {K : aKn} {ρ : Nat → Int} {pl : List (Option aV)} {sk : List aV} {plc : List (Option Value)} {skc : List Value} {pc : Nat} {l : List aT}
-- ---- a write keeps the invariant
theorem aLk_ne {M M' : xM} {p q : Nat} (h : aLk M p q) (h1 : ∀ i, M' p i = M p i) (h2 : ∀ i, M' q i = M q i) : aLk M' p q := by
  intro s hs i j hi hj e
  rw [h1] at hi hj
  rw [h2, h2] at e
  exact h s hs i j hi hj e
theorem aX_np {p i : Nat} {x : Int32} (hA : aPrA p = false) (hF : aPrF p i = false) (h : aX M) : aX (xup M p i x) := by
  have hp : ∀ q, aPrA q = true → q ≠ p := fun q hq e => by rw [e, hA] at hq; cases hq
  have hc : ∀ q, aPrA q = true → ∀ j, xup M p i x q j = M q j := fun q hq j => xup_ne (Or.inl (hp q hq))
  have hf : ∀ j, aPrF 56 j = true → xup M p i x 56 j = M 56 j := fun j hj => xup_ne (by
    by_cases e1 : (56 : Nat) = p
    · refine Or.inr (fun e2 => ?_)
      rw [← e1, ← e2, hj] at hF
      cases hF
    · exact Or.inl e1)
  obtain ⟨h1, h2, h3, h4, h5, h6, h7⟩ := h
  refine ⟨aLk_ne h1 (hc 13 rfl) (hc 14 rfl), aLk_ne h2 (hc 68 rfl) (hc 69 rfl), fun j hj => ?_, ?_, ?_, fun j => ?_, ?_⟩
  · rw [hc 58 rfl]; exact h3 j hj
  · rw [hc 58 rfl, hf 0 rfl]; exact h4
  · rw [hf 6 rfl, hf 0 rfl]; exact h5
  · rw [hc 80 rfl, hc 81 rfl]; exact h6 j
  · rw [hf 26 rfl, hf 27 rfl]; exact h7
theorem aLk_z {p q i : Nat} (hpq : p ≠ q) (h : aLk M p q) : aLk (xup M p i 0) p q := by
  intro s hs a b ha hb e
  rw [xup_ne (Or.inl (Ne.symm hpq)), xup_ne (Or.inl (Ne.symm hpq))] at e
  by_cases c : s = i
  · subst c
    rw [xup_self] at ha
    have : (0 : Int32).toInt = 0 := by decide
    omega
  · rw [xup_ne (Or.inr c)] at ha hb
    exact h s hs a b ha hb e
theorem aX_13 {i : Nat} (h : aX M) : aX (xup M 13 i 0) := by
  obtain ⟨h1, h2, h3, h4, h5, h6, h7⟩ := h
  have hc : ∀ q, q ≠ 13 → ∀ j, xup M 13 i 0 q j = M q j := fun q hq j => xup_ne (Or.inl hq)
  refine ⟨aLk_z (by decide) h1, aLk_ne h2 (hc 68 (by decide)) (hc 69 (by decide)), fun j hj => ?_, ?_, ?_, fun j => ?_, ?_⟩
  · rw [hc 58 (by decide)]; exact h3 j hj
  · rw [hc 58 (by decide), hc 56 (by decide)]; exact h4
  · rw [hc 56 (by decide), hc 56 (by decide)]; exact h5
  · rw [hc 80 (by decide), hc 81 (by decide)]; exact h6 j
  · rw [hc 56 (by decide), hc 56 (by decide)]; exact h7
theorem aX_68 {i : Nat} (h : aX M) : aX (xup M 68 i 0) := by
  obtain ⟨h1, h2, h3, h4, h5, h6, h7⟩ := h
  have hc : ∀ q, q ≠ 68 → ∀ j, xup M 68 i 0 q j = M q j := fun q hq j => xup_ne (Or.inl hq)
  refine ⟨aLk_ne h1 (hc 13 (by decide)) (hc 14 (by decide)), aLk_z (by decide) h2, fun j hj => ?_, ?_, ?_, fun j => ?_, ?_⟩
  · rw [hc 58 (by decide)]; exact h3 j hj
  · rw [hc 58 (by decide), hc 56 (by decide)]; exact h4
  · rw [hc 56 (by decide), hc 56 (by decide)]; exact h5
  · rw [hc 80 (by decide), hc 81 (by decide)]; exact h6 j
  · rw [hc 56 (by decide), hc 56 (by decide)]; exact h7
theorem aX_58 {i : Nat} {x : Int32} (hx : x.toInt < (i : Int)) (h : aX M) : aX (xup M 58 i x) := by
  obtain ⟨h1, h2, h3, h4, h5, h6, h7⟩ := h
  have hc : ∀ q, q ≠ 58 → ∀ j, xup M 58 i x q j = M q j := fun q hq j => xup_ne (Or.inl hq)
  refine ⟨aLk_ne h1 (hc 13 (by decide)) (hc 14 (by decide)), aLk_ne h2 (hc 68 (by decide)) (hc 69 (by decide)), fun j hj => ?_, fun q => ?_, ?_, fun j => ?_, ?_⟩
  · by_cases e : j = i
    · subst e
      rw [xup_self]
      exact hx
    · rw [xup_ne (Or.inr e)]
      exact h3 j hj
  · by_cases e : 0 = i
    · subst e
      rw [xup_self]
      omega
    · rw [hc 56 (by decide)] at q
      rw [xup_ne (Or.inr e)]
      exact h4 q
  · rw [hc 56 (by decide), hc 56 (by decide)]; exact h5
  · rw [hc 80 (by decide), hc 81 (by decide)]; exact h6 j
  · rw [hc 56 (by decide), hc 56 (by decide)]; exact h7
theorem aX_m {x : Int32} (hx : 1 ≤ x.toInt) (h0 : (M 58 (M 56 0).toInt.toNat).toInt < (M 56 0).toInt) (hn : 0 ≤ (M 56 0).toInt) (h : aX M) : aX (xup M 56 0 x) := by
  obtain ⟨h1, h2, h3, h4, h5, h6, h7⟩ := h
  have hc : ∀ q, q ≠ 56 → ∀ j, xup M 56 0 x q j = M q j := fun q hq j => xup_ne (Or.inl hq)
  refine ⟨aLk_ne h1 (hc 13 (by decide)) (hc 14 (by decide)), aLk_ne h2 (hc 68 (by decide)) (hc 69 (by decide)), fun j hj => ?_, fun _ => ?_, fun _ => ?_, fun j => ?_, ?_⟩
  · rw [hc 58 (by decide)]; exact h3 j hj
  · rw [hc 58 (by decide)]
    by_cases e : (M 56 0).toInt = 0
    · rw [e] at h0
      exact h0
    · exact h4 (by omega)
  · rw [xup_self]; exact hx
  · rw [hc 80 (by decide), hc 81 (by decide)]; exact h6 j
  · rw [xup_ne (Or.inr (by decide)), xup_ne (Or.inr (by decide))]; exact h7
theorem aX_s {x : Int32} (hx : 1 ≤ (M 56 0).toInt) (h : aX M) : aX (xup M 56 6 x) := by
  obtain ⟨h1, h2, h3, h4, h5, h6, h7⟩ := h
  have hc : ∀ q, q ≠ 56 → ∀ j, xup M 56 6 x q j = M q j := fun q hq j => xup_ne (Or.inl hq)
  have h0 : xup M 56 6 x 56 0 = M 56 0 := xup_ne (Or.inr (by decide))
  refine ⟨aLk_ne h1 (hc 13 (by decide)) (hc 14 (by decide)), aLk_ne h2 (hc 68 (by decide)) (hc 69 (by decide)), fun j hj => ?_, ?_, fun _ => ?_, fun j => ?_, ?_⟩
  · rw [hc 58 (by decide)]; exact h3 j hj
  · rw [hc 58 (by decide), h0]; exact h4
  · rw [h0]; exact hx
  · rw [hc 80 (by decide), hc 81 (by decide)]; exact h6 j
  · rw [xup_ne (Or.inr (by decide)), xup_ne (Or.inr (by decide))]; exact h7
theorem aX_at {b : Nat} {x : Int32} (hb : b = 26 ∨ b = 27) (hx : (xup M 56 b x 56 26).toInt - (xup M 56 b x 56 27).toInt ≤ 121) (h : aX M) : aX (xup M 56 b x) := by
  obtain ⟨h1, h2, h3, h4, h5, h6, h7⟩ := h
  have hc : ∀ q, q ≠ 56 → ∀ j, xup M 56 b x q j = M q j := fun q hq j => xup_ne (Or.inl hq)
  have h0 : xup M 56 b x 56 0 = M 56 0 := xup_ne (Or.inr (by omega))
  have h00 : xup M 56 b x 56 6 = M 56 6 := xup_ne (Or.inr (by omega))
  refine ⟨aLk_ne h1 (hc 13 (by decide)) (hc 14 (by decide)), aLk_ne h2 (hc 68 (by decide)) (hc 69 (by decide)), fun j hj => ?_, ?_, ?_, fun j => ?_, hx⟩
  · rw [hc 58 (by decide)]; exact h3 j hj
  · rw [hc 58 (by decide), h0]; exact h4
  · rw [h00, h0]; exact h5
  · rw [hc 80 (by decide), hc 81 (by decide)]; exact h6 j
/-- what a protected place may get -/
def aspc (K : aKn) (p : Nat) (l v : aL) : Bool :=
  ((Nat.beq p 13 || Nat.beq p 68) && aeql v (aco 0)) ||
  (Nat.beq p 58 && apr K.2.1 K.2.2.1 (aadd (aco 1) (asub v l))) ||
  (Nat.beq p 56 && aeql l (aco 0) && apr K.2.1 K.2.2.1 (asub (aco 1) v) && (match acl K.2.2.2.1 56 (aco 0) with
    | some n => apr K.2.1 K.2.2.1 (asub (aco 0) n) && (match acl K.2.2.2.1 58 n with
      | some u => apr K.2.1 K.2.2.1 (aadd (aco 1) (asub u n))
      | none => false)
    | none => false)) ||
  (Nat.beq p 56 && aeql l (aco 6) && (match acl K.2.2.2.1 56 (aco 0) with
    | some n => apr K.2.1 K.2.2.1 (asub (aco 1) n)
    | none => false)) ||
  (Nat.beq p 56 && aeql l (aco 26) && (apr K.2.1 K.2.2.1 (asub v (aco 120)) || (match acl K.2.2.2.1 56 (aco 27) with
    | some n => apr K.2.1 K.2.2.1 (asub (asub v n) (aco 121))
    | none => false))) ||
  (Nat.beq p 56 && aeql l (aco 27) && (apr K.2.1 K.2.2.1 (asub (aco 0) v) || (match acl K.2.2.2.1 56 (aco 26) with
    | some n => apr K.2.1 K.2.2.1 (asub (asub n v) (aco 121))
    | none => false)))
theorem aspc_of {p i : Nat} {l v : aL} {x : Int32} (hK : aKok xs L prs aRws ρ K M) (hI : aIvOk M) (hM : aX M) (hl : aev ρ l = (i : Int)) (hv : x.toInt = aev ρ v) (h : aspc K p l v = true) : aX (xup M p i x) := by
  have hpr : ∀ {f : aL}, apr K.2.1 K.2.2.1 f = true → aev ρ f ≤ 0 := fun h => apr_of hK.2.2.1 hK.2.2.2.1 h
  unfold aspc at h
  rw [Bool.or_eq_true, Bool.or_eq_true, Bool.or_eq_true, Bool.or_eq_true, Bool.or_eq_true] at h
  rcases h with ((((h | h) | h) | h) | h) | h
  · rw [Bool.and_eq_true, Bool.or_eq_true] at h
    have e := aeql_of h.2
    rw [e, aev_co] at hv
    have e0 : x = 0 := Int32.toInt_inj.mp hv
    subst e0
    rcases h.1 with e | e
    · rw [Nat.eq_of_beq_eq_true e]; exact aX_13 hM
    · rw [Nat.eq_of_beq_eq_true e]; exact aX_68 hM
  · rw [Bool.and_eq_true] at h
    have i1 := hpr h.2
    rw [aev_add, aev_co, aev_sub] at i1
    rw [Nat.eq_of_beq_eq_true h.1]
    exact aX_58 (by omega) hM
  · rw [Bool.and_eq_true, Bool.and_eq_true, Bool.and_eq_true] at h
    obtain ⟨⟨⟨a1, a2⟩, a3⟩, a4⟩ := h
    have e1 := Nat.eq_of_beq_eq_true a1
    subst e1
    have e2 := aeql_of a2
    rw [e2, aev_co] at hl
    have e3 : i = 0 := by omega
    subst e3
    have i3 := hpr a3
    rw [aev_sub, aev_co] at i3
    split at a4
    · rename_i n en
      rw [Bool.and_eq_true] at a4
      have i4 := hpr a4.1
      rw [aev_sub, aev_co] at i4
      have hn := (hK.2.2.2.2.1 _ (acl_of en)).2
      dsimp only at hn
      rw [aev_co] at hn
      have hn : (M 56 0).toInt = aev ρ n := hn
      have a5 := a4.2
      split at a5
      · rename_i u eu
        have i5 := hpr a5
        rw [aev_add, aev_co, aev_sub] at i5
        have hu := (hK.2.2.2.2.1 _ (acl_of eu)).2
        dsimp only at hu
        refine aX_m (by omega) ?_ (by omega) hM
        rw [hn, hu]
        omega
      · cases a5
    · cases a4
  · rw [Bool.and_eq_true, Bool.and_eq_true] at h
    obtain ⟨⟨a1, a2⟩, a4⟩ := h
    have e1 := Nat.eq_of_beq_eq_true a1
    subst e1
    have e2 := aeql_of a2
    rw [e2, aev_co] at hl
    have e3 : i = 6 := by omega
    subst e3
    split at a4
    · rename_i n en
      have i4 := hpr a4
      rw [aev_sub, aev_co] at i4
      have hn := (hK.2.2.2.2.1 _ (acl_of en)).2
      dsimp only at hn
      rw [aev_co] at hn
      have hn : (M 56 0).toInt = aev ρ n := hn
      exact aX_s (by omega) hM
    · cases a4
  · rw [Bool.and_eq_true, Bool.and_eq_true] at h
    obtain ⟨⟨a1, a2⟩, a4⟩ := h
    have e1 := Nat.eq_of_beq_eq_true a1
    subst e1
    have e2 := aeql_of a2
    rw [e2, aev_co] at hl
    have e3 : i = 26 := by omega
    subst e3
    refine aX_at (Or.inl rfl) ?_ hM
    rw [xup_self, xup_ne (Or.inr (by decide)), hv]
    rw [Bool.or_eq_true] at a4
    rcases a4 with a4 | a4
    · have i4 := hpr a4
      rw [aev_sub, aev_co] at i4
      have := (hI.2 56 27 (-1, 121) rfl).1
      dsimp only at this
      omega
    · split at a4
      · rename_i n en
        have i4 := hpr a4
        rw [aev_sub, aev_sub, aev_co] at i4
        have hn := (hK.2.2.2.2.1 _ (acl_of en)).2
        dsimp only at hn
        rw [aev_co] at hn
        have hn : (M 56 27).toInt = aev ρ n := hn
        omega
      · cases a4
  · rw [Bool.and_eq_true, Bool.and_eq_true] at h
    obtain ⟨⟨a1, a2⟩, a4⟩ := h
    have e1 := Nat.eq_of_beq_eq_true a1
    subst e1
    have e2 := aeql_of a2
    rw [e2, aev_co] at hl
    have e3 : i = 27 := by omega
    subst e3
    refine aX_at (Or.inr rfl) ?_ hM
    rw [xup_self, xup_ne (Or.inr (by decide)), hv]
    rw [Bool.or_eq_true] at a4
    rcases a4 with a4 | a4
    · have i4 := hpr a4
      rw [aev_sub, aev_co] at i4
      have := (hI.2 56 26 (0, 121) rfl).2
      dsimp only at this
      omega
    · split at a4
      · rename_i n en
        have i4 := hpr a4
        rw [aev_sub, aev_sub, aev_co] at i4
        have hn := (hK.2.2.2.2.1 _ (acl_of en)).2
        dsimp only at hn
        rw [aev_co] at hn
        have hn : (M 56 26).toInt = aev ρ n := hn
        omega
      · cases a4
def aqc (q : Int × Int) (v : aL) : List aL := [asub v (aco q.2), asub (aco q.1) v]
theorem aqc_of {q : Int × Int} {v : aL} (h : ∀ c ∈ aqc q v, aev ρ c ≤ 0) : q.1 ≤ aev ρ v ∧ aev ρ v ≤ q.2 := by
  have h1 := h (asub v (aco q.2)) (by unfold aqc; exact List.mem_cons_self ..)
  have h2 := h (asub (aco q.1) v) (by unfold aqc; exact List.mem_cons_of_mem _ (List.mem_cons_self ..))
  rw [aev_sub, aev_co] at h1 h2
  omega
def aNoF (p : Nat) : Bool := aIvFl.all (fun t => !(Nat.beq t.1.1 p))
theorem aNoF_of {p b : Nat} (h : aNoF p = true) : aIvF p b = none := by
  unfold aIvF
  split
  · rename_i t e
    have h1 := List.find?_some e
    have h2 := List.mem_of_find?_eq_some e
    have h3 := List.all_eq_true.mp h t h2
    rw [Bool.and_eq_true] at h1
    rw [h1.1] at h3
    cases h3
  · rfl
def arwp (p : Nat) : Bool := aRws.any (fun r => Nat.beq p r.1 || Nat.beq p r.2.2.1)
def aputc (p : Nat) (v : aL) : Option Nat → List aL
  | some b => aqc (aqA p) v ++ aqc (aqF p b) v
  | none => aqc (aqA p) v
def aputw (w : aW) (p : Nat) : Option Nat → Bool
  | some b => aWin w p b
  | none => w.1.any (Nat.beq p) && aNoF p
def aputp (p : Nat) : Option Nat → Bool
  | some b => !(aPrA p) && !(aPrF p b)
  | none => !(aPrA p) && !(Nat.beq p 56)
def aput (prs : List (Nat × Nat)) (w : aW) (K : aKn) (p : Nat) (l v : aL) (fld : Option Nat) (cs : List aL) : Option (Option aKn) := match (bif arwp p then asat K else some K) with
  | none => some none
  | some K0 => match aneed K0 (aputc p v fld ++ cs) with
    | none => none
    | some none => some none
    | some (some K1) => bif aputw w p fld && (aputp p fld || aspc K1 p l v) then some (some (awr prs aRws K1 p l v)) else none
theorem aput_of {p i : Nat} {l v : aL} {fld : Option Nat} {cs : List aL} {x : Int32} {r : Option aKn} (hp : ∀ pr ∈ prs, pr.1 ≠ pr.2) (hK : aHK xs L prs M K ρ) (hM : aInv M) (hl : ∀ ρ', agr K.1 ρ ρ' → aev ρ' l = (i : Int)) (hv : ∀ ρ', agr K.1 ρ ρ' → x.toInt = aev ρ' v) (hb : ∀ b, fld = some b → b = i) (h : aput prs w K p l v fld cs = some r) : ∃ K', r = some K' ∧ K'.1 = K.1 ∧ aHK xs L prs (xup M p i x) K' ρ ∧ aInv (xup M p i x) ∧ aUnw w M (xup M p i x) ∧ ∀ ρ', agr K.1 ρ ρ' → ∀ c ∈ cs, aev ρ' c ≤ 0 := by
  unfold aput at h
  have h0 : ∃ K0, (bif arwp p then asat K else some K) = some K0 ∧ aSame K K0 ∧ aHK xs L prs M K0 ρ := by
    cases arwp p with
    | true => exact asat_of hK
    | false => exact ⟨K, rfl, aSame.refl K, hK⟩
  obtain ⟨K0, e0, s0, hK0⟩ := h0
  rw [e0] at h
  dsimp only at h
  split at h
  · cases h
  · rename_i en
    obtain ⟨K', e', -⟩ := aneed_of hK0 en
    cases e'
  · rename_i K1 en
    obtain ⟨K', e', s1, hK1, hc⟩ := aneed_of hK0 en
    cases e'
    have hn : K1.1 = K.1 := s1.1.trans s0.1
    rw [s0.1] at hc
    cases c : aputw w p fld && (aputp p fld || aspc K1 p l v) with
    | false => rw [c] at h; cases h
    | true =>
      rw [c] at h
      cases h
      rw [Bool.and_eq_true] at c
      have hr := agr_refl K.1 ρ
      have hcs := hc ρ hr
      have hxv := hv ρ hr
      have hA : (aqA p).1 ≤ x.toInt ∧ x.toInt ≤ (aqA p).2 := by
        rw [hxv]
        refine aqc_of (fun f hf => hcs f (List.mem_append_left _ ?_))
        cases fld with
        | some b => exact List.mem_append_left _ hf
        | none => exact hf
      have hF : ∀ q, aIvF p i = some q → q.1 ≤ x.toInt ∧ x.toInt ≤ q.2 := by
        intro q eq
        cases fld with
        | some b =>
          have eb := hb b rfl
          have : (aqF p b).1 ≤ x.toInt ∧ x.toInt ≤ (aqF p b).2 := by
            rw [hxv]
            exact aqc_of (fun f hf => hcs f (List.mem_append_left _ (List.mem_append_right _ hf)))
          unfold aqF at this
          rw [eb, eq] at this
          exact this
        | none =>
          have c1 := c.1
          unfold aputw at c1
          rw [Bool.and_eq_true] at c1
          rw [aNoF_of c1.2] at eq
          cases eq
      refine ⟨_, rfl, hn, ?_, ⟨⟨?_, ?_⟩, ?_⟩, ?_, fun ρ' hρ f hf => hc ρ' hρ f (List.mem_append_right _ hf)⟩
      · intro ρ' hρ
        have hρ : agr K1.1 ρ ρ' := hρ
        have hρ0 := hρ
        rw [hn] at hρ0
        exact awr_of hp (hK1 ρ' hρ) (hl ρ' hρ0) (hv ρ' hρ0)
      · intro p' q eq i'
        by_cases e : p' = p ∧ i' = i
        · obtain ⟨e1, e2⟩ := e
          subst e1; subst e2
          rw [xup_self]
          unfold aqA at hA
          rw [eq] at hA
          exact hA
        · rw [xup_ne (by omega)]
          exact hM.1.1 p' q eq i'
      · intro p' b q eq
        by_cases e : p' = p ∧ b = i
        · obtain ⟨e1, e2⟩ := e
          subst e1; subst e2
          rw [xup_self]
          exact hF q eq
        · rw [xup_ne (by omega)]
          exact hM.1.2 p' b q eq
      · have c2 := c.2
        rw [Bool.or_eq_true] at c2
        rcases c2 with c2 | c2
        · unfold aputp at c2
          cases fld with
          | some b =>
            have eb := hb b rfl
            subst eb
            have c2 : (!(aPrA p) && !(aPrF p b)) = true := c2
            rw [Bool.and_eq_true, Bool.not_eq_true', Bool.not_eq_true'] at c2
            exact aX_np c2.1 c2.2 hM.2
          | none =>
            have c2 : (!(aPrA p) && !(Nat.beq p 56)) = true := c2
            rw [Bool.and_eq_true, Bool.not_eq_true', Bool.not_eq_true'] at c2
            refine aX_np c2.1 ?_ hM.2
            unfold aPrF
            rw [List.any_cons, List.any_cons, List.any_cons, List.any_cons, List.any_nil, c2.2]
            rfl
        · exact aspc_of (hK1 ρ (agr_refl _ _)) hM.1 hM.2 (hl ρ hr) (hv ρ hr) c2
      · intro p' i' e
        apply xup_ne
        by_cases z : p' = p
        · refine Or.inr (fun z2 => ?_)
          subst z; subst z2
          have c1 := c.1
          unfold aputw at c1
          cases fld with
          | some b =>
            have eb := hb b rfl
            subst eb
            have c1 : aWin w p' b = true := c1
            rw [e] at c1
            cases c1
          | none =>
            rw [Bool.and_eq_true] at c1
            unfold aWin at e
            rw [c1.1] at e
            cases e
        · exact Or.inl z
-- ---- indices
def aix (l : aL) (n : Nat) : List aL := [amul (-1) l, aadd (aco 1) (asub l (aco n))]
theorem aix_of {l : aL} {n : Nat} (h : ∀ c ∈ aix l n, aev ρ c ≤ 0) : 0 ≤ aev ρ l ∧ aev ρ l < (n : Int) := by
  have h1 := h (amul (-1) l) (by unfold aix; exact List.mem_cons_self ..)
  have h2 := h (aadd (aco 1) (asub l (aco n))) (by unfold aix; exact List.mem_cons_of_mem _ (List.mem_cons_self ..))
  rw [aev_mul] at h1
  rw [aev_add, aev_co, aev_sub, aev_co] at h2
  omega
theorem xout_ok {i : Int32} {n : Nat} (h1 : 0 ≤ i.toInt) (h2 : i.toInt < (n : Int)) : xoutB i n = false ∧ (i.toNatClampNeg : Int) = i.toInt := by
  have e : i.toNatClampNeg = i.toInt.toNat := rfl
  refine ⟨?_, by rw [e]; omega⟩
  unfold xoutB
  rw [Bool.or_eq_false_iff]
  refine ⟨decide_eq_false (fun z => ?_), ?_⟩
  · rw [Int32.lt_iff_toInt_lt] at z
    have : (0 : Int32).toInt = 0 := by decide
    omega
  · cases c : Nat.ble n i.toNatClampNeg with
    | false => rfl
    | true =>
      have := Nat.le_of_ble_eq_true c
      rw [e] at this
      omega
theorem aNew.cong {K K0 K' : aKn} {P : (Nat → Int) → Prop} (hn : K0.1 = K.1) (h : aNew xs L prs M K0 ρ K' P) : aNew xs L prs M K ρ K' P := by
  obtain ⟨ρ2, h1, h2, h3⟩ := h
  rw [hn] at h1 h2
  exact ⟨ρ2, h1, h2, h3⟩
-- ---- reading
def asc (K : aKn) (l : aL) : aL × aKn := match aulk K.2.2.2.2.1 20 l (aco 0) with
  | some v => (v, K)
  | none => (aid K.1, (K.1 + 1, (K.1, aFull) :: K.2.1, K.2.2.1, K.2.2.2.1, ((20, l, aco 0), aid K.1) :: K.2.2.2.2.1, K.2.2.2.2.2))
theorem asc_of {l : aL} {i : Nat} (hK : aHK xs L prs M K ρ) (hl : ∀ ρ', agr K.1 ρ ρ' → aev ρ' l = (i : Int)) : aNew xs L prs M K ρ (asc K l).2 (fun ρ' => (xs i).toInt = aev ρ' (asc K l).1) := by
  unfold asc
  split
  · rename_i v e
    refine aNew.same hK (fun ρ' h => ?_)
    have hu := (hK ρ' h).2.2.2.2.2.1 _ (aulk_of e)
    unfold aun1 at hu
    rw [if_pos rfl] at hu
    have := hu.2
    dsimp only at this
    rw [hl ρ' h, Int.toNat_natCast] at this
    exact this
  · obtain ⟨ρ2, h1, h2, h3⟩ := afr_of (q := aFull) (z := (xs i).toInt) hK (aFull_of _)
    refine ⟨ρ2, h1, h2, fun ρ' hρ => ?_⟩
    obtain ⟨⟨k1, k2, k3, k4, k5, k6, k7, k8⟩, hv⟩ := h3 ρ' hρ
    have hρ0 : agr K.1 ρ ρ' := agr_trans h1 h2 hρ
    refine ⟨⟨k1, k2, k3, k4, k5, ?_, k7, k8⟩, hv⟩
    intro q hq
    rcases List.mem_cons.mp hq with e | e
    · subst e
      unfold aun1
      rw [if_pos rfl]
      dsimp only
      rw [hl ρ' hρ0, Int.toNat_natCast]
      exact ⟨Int.natCast_nonneg i, hv⟩
    · exact k6 q e
def asm (K : aKn) (p : Nat) (l v : aL) : Option aKn := bif Nat.beq p 80 then (match acl K.2.2.2.1 81 l with
    | some u => asetO K (aleR K.2.1 K.2.2.1 (aadd v u) (aco 47))
    | none => some K) else bif Nat.beq p 81 then (match acl K.2.2.2.1 80 l with
    | some u => asetO K (aleR K.2.1 K.2.2.1 (aadd u v) (aco 47))
    | none => some K) else some K
theorem asm_of {p i : Nat} {l v : aL} (hM : aX M) (hK : aHK xs L prs M K ρ) (hl : ∀ ρ', agr K.1 ρ ρ' → aev ρ' l = (i : Int)) (hv : ∀ ρ', agr K.1 ρ ρ' → (M p i).toInt = aev ρ' v) : ∃ K', asm K p l v = some K' ∧ aSame K K' ∧ aHK xs L prs M K' ρ := by
  unfold asm
  cases c : Nat.beq p 80 with
  | true =>
    have e := Nat.eq_of_beq_eq_true c
    subst e
    dsimp only [cond_true]
    split
    · rename_i u eu
      refine asetO_of hK (aleR_all (P := agr K.1 ρ) (agr_refl _ _) hK.EF (fun ρ' hr => ?_))
      have h1 := ((hK ρ' hr).2.2.2.2.1 _ (acl_of eu)).2
      dsimp only at h1
      rw [hl ρ' hr, Int.toNat_natCast] at h1
      have h2 := hM.2.2.2.2.2.1 i
      have h3 := hv ρ' hr
      rw [aev_add, aev_co]
      omega
    · exact ⟨K, rfl, aSame.refl K, hK⟩
  | false =>
    cases c2 : Nat.beq p 81 with
    | true =>
      have e := Nat.eq_of_beq_eq_true c2
      subst e
      dsimp only [cond_true, cond_false]
      split
      · rename_i u eu
        refine asetO_of hK (aleR_all (P := agr K.1 ρ) (agr_refl _ _) hK.EF (fun ρ' hr => ?_))
        have h1 := ((hK ρ' hr).2.2.2.2.1 _ (acl_of eu)).2
        dsimp only at h1
        rw [hl ρ' hr, Int.toNat_natCast] at h1
        have h2 := hM.2.2.2.2.2.1 i
        have h3 := hv ρ' hr
        rw [aev_add, aev_co]
        omega
      · exact ⟨K, rfl, aSame.refl K, hK⟩
    | false => exact ⟨K, rfl, aSame.refl K, hK⟩
/-- an element of a row is read -/
def aget (prs : List (Nat × Nat)) (K : aKn) (p : Nat) (l : aL) (n : Nat) : Option (Option (aL × aKn)) := match aneed K (aix l n) with
  | none => none
  | some none => some none
  | some (some K1) => (match asm (ard prs K1 p l (aqA p)).2 p l (ard prs K1 p l (aqA p)).1 with
    | some K2 => some (some ((ard prs K1 p l (aqA p)).1, K2))
    | none => some none)
theorem aget_of {p n : Nat} {l : aL} {i : Int32} {r : Option (aL × aKn)} (hM : aInv M) (hK : aHK xs L prs M K ρ) (hi : ∀ ρ', agr K.1 ρ ρ' → i.toInt = aev ρ' l) (h : aget prs K p l n = some r) : xoutB i n = false ∧ ∃ q, r = some q ∧ aNew xs L prs M K ρ q.2 (fun ρ' => (M p i.toNatClampNeg).toInt = aev ρ' q.1) := by
  unfold aget at h
  split at h
  · cases h
  · rename_i en
    obtain ⟨K', e', -⟩ := aneed_of hK en
    cases e'
  · rename_i K1 en
    obtain ⟨K', e', s1, hK1, hc⟩ := aneed_of hK en
    cases e'
    have hb := aix_of (hc ρ (agr_refl _ _))
    rw [← hi ρ (agr_refl _ _)] at hb
    obtain ⟨o1, o2⟩ := xout_ok hb.1 hb.2
    refine ⟨o1, ?_⟩
    have hl : ∀ ρ', agr K1.1 ρ ρ' → aev ρ' l = (i.toNatClampNeg : Int) := fun ρ' hr => by
      rw [s1.1] at hr
      rw [o2, hi ρ' hr]
    obtain ⟨ρ2, h1, h2, h3⟩ := ard_of (p := p) (i := i.toNatClampNeg) (l := l) (q := aqA p) hK1 hl (aqA_of hM.1 p _)
    obtain ⟨K2, f1, f2, f3⟩ := asm_of (p := p) (i := i.toNatClampNeg) (l := l) (v := (ard prs K1 p l (aqA p)).1) hM.2 (K := (ard prs K1 p l (aqA p)).2) (ρ := ρ2) (fun ρ' hr => (h3 ρ' hr).1) (fun ρ' hr => hl ρ' (agr_trans h1 h2 hr)) (fun ρ' hr => (h3 ρ' hr).2)
    rw [f1] at h
    cases h
    refine ⟨_, rfl, aNew.cong s1.1 ⟨ρ2, ?_, h2, fun ρ' hr => ⟨f3 ρ' hr, (h3 ρ' ?_).2⟩⟩⟩
    · rw [f2.1]; exact h1
    · rw [← f2.1]; exact hr
def ar1 (pc' : Nat) (pl : List (Option aV)) (sk : List aV) : Option (Option (aL × aKn)) → Option (List aT)
  | none => none
  | some none => some []
  | some (some q) => some [(pc', pl, .inl q.1 :: sk, q.2)]
def ao_iald (prs : List (Nat × Nat)) (pc : Nat) (pl : List (Option aV)) (sk : List aV) (K : aKn) : Option (List aT) := match sk with
  | .inl x :: .inr (.inr (.inl p)) :: sk => bif Nat.beq p 999 then (match aneed K [amul (-1) x, aadd (aco 1) (asub x (aid 0))] with
      | none => none
      | some none => some []
      | some (some K1) => some [(pc + 1, pl, .inl (asc K1 x).1 :: sk, (asc K1 x).2)])
    else (match aSha p with
      | some (.inl (.int, n)) => ar1 (pc + 1) pl sk (aget prs K p x n)
      | _ => none)
  | _ => none
theorem ar1_of {p n : Nat} {x : aL} {i : Int32} {m : List Value} {r : xR} (hM : aInv M) (hK : aHK xs L prs M K ρ) (hi : ∀ ρ', agr K.1 ρ ρ' → i.toInt = aev ρ' x) (hl : ∀ ρ', agr K.1 ρ ρ' → aloc ρ' pl plc ∧ astk ρ' sk m) (hr : xoutB i n = false → r = some (.inl (pc, plc, .int (M p i.toNatClampNeg) :: m, 102, xsh0, M))) (h : ar1 pc pl sk (aget prs K p x n) = some l) : aOut xs L prs w M K ρ l r := by
  cases hg : aget prs K p x n with
  | none => rw [hg] at h; cases h
  | some r' =>
    obtain ⟨h1, q, e, h2⟩ := aget_of hM hK hi hg
    subst e
    rw [hg] at h
    cases h
    exact aOut.new (plc' := plc) (skc' := .int (M p i.toNatClampNeg) :: m) hM (hr h1) h2 (fun ρ' hρ hP => ⟨(hl ρ' hρ).1, hP, (hl ρ' hρ).2⟩)
theorem aSha_999 {p : Nat} {d : xSh} (h : aSha p = some d) : Nat.beq p 999 = false ∧ Nat.ble 2000 p = false := by
  unfold aSha at h
  cases c : Nat.ble 102 p with
  | true => rw [c] at h; cases h
  | false =>
    have hp : ¬ 102 ≤ p := fun z => by rw [Nat.ble_eq_true_of_le z] at c; cases c
    constructor
    · cases c1 : Nat.beq p 999 with
      | false => rfl
      | true => have := Nat.eq_of_beq_eq_true c1; omega
    · cases c1 : Nat.ble 2000 p with
      | false => rfl
      | true => have := Nat.le_of_ble_eq_true c1; omega
theorem ao_iald_of (h : ao_iald prs pc pl sk K = some l) (hM : aInv M) (hR : aHR xs L prs M K ρ pl sk plc skc) : aOut xs L prs w M K ρ l (xo_iald xs L (pc, plc, skc, 102, xsh0, M)) := by
  unfold ao_iald at h
  split at h
  · rename_i x p sk'
    obtain ⟨v, m, e⟩ := astk_cons hR.s
    subst e
    obtain ⟨i, e⟩ := aval_int hR.s.1
    subst e
    obtain ⟨v, m, e⟩ := astk_cons hR.s.2
    subst e
    have e := aval_ref hR.s.2.1
    subst e
    have hi : ∀ ρ', agr K.1 ρ ρ' → i.toInt = aev ρ' x := fun ρ' hr => (hR ρ' hr).2.2.1
    have hl : ∀ ρ', agr K.1 ρ ρ' → aloc ρ' pl plc ∧ astk ρ' sk' m := fun ρ' hr => ⟨(hR ρ' hr).2.1, (hR ρ' hr).2.2.2.2⟩
    cases c : Nat.beq p 999 with
    | true =>
      rw [c] at h
      dsimp only [cond_true] at h
      split at h
      · cases h
      · rename_i en
        obtain ⟨K', e', -⟩ := aneed_of hR.kn en
        cases e'
      · rename_i K1 en
        cases h
        obtain ⟨K', e', s1, hK1, hc⟩ := aneed_of hR.kn en
        cases e'
        have h1 := hc ρ (agr_refl _ _) _ (List.mem_cons_self ..)
        have h2 := hc ρ (agr_refl _ _) _ (List.mem_cons_of_mem _ (List.mem_cons_self ..))
        rw [aev_mul, ← hi ρ (agr_refl _ _)] at h1
        rw [aev_add, aev_co, aev_sub, aev_id, (hR.kn ρ (agr_refl _ _)).2.1, ← hi ρ (agr_refl _ _)] at h2
        obtain ⟨o1, o2⟩ := xout_ok (i := i) (n := L) (by omega) (by omega)
        refine aOut.new (plc' := plc) (skc' := .int (xs i.toNatClampNeg) :: m) hM ?_ (aNew.cong s1.1 (asc_of (l := x) (i := i.toNatClampNeg) hK1 (fun ρ' hr => ?_))) (fun ρ' hρ hP => ⟨(hl ρ' hρ).1, hP, (hl ρ' hρ).2⟩)
        · simp only [xo_iald, c, cond_true, o1, cond_false]
        · rw [s1.1] at hr
          rw [o2, hi ρ' hr]
    | false =>
      rw [c] at h
      dsimp only [cond_false] at h
      split at h
      · rename_i n es
        refine ar1_of hM hR.kn hi hl (fun ho => ?_) h
        simp only [xo_iald, c, cond_false, aSha_of es, ho]
      · cases h
  · cases h
theorem xSb_b (j i : Nat) : 0 ≤ ((xSb.getD j []).getD i 0).toInt ∧ ((xSb.getD j []).getD i 0).toInt ≤ 127 := by
  have h : ∀ l ∈ xSb, ∀ x ∈ l, 0 ≤ Int32.toInt x ∧ Int32.toInt x ≤ 127 := by decide
  have h0 : (0 : Int32).toInt = 0 := by decide
  rw [List.getD_eq_getElem?_getD, List.getD_eq_getElem?_getD]
  cases e1 : xSb[j]? with
  | none =>
    rw [Option.getD_none, List.getElem?_nil, Option.getD_none, h0]
    decide
  | some r =>
    rw [Option.getD_some]
    cases e2 : r[i]? with
    | none => rw [Option.getD_none, h0]; decide
    | some x => exact h r (List.mem_of_getElem? e1) x (List.mem_of_getElem? e2)
def ao_bald (prs : List (Nat × Nat)) (pc : Nat) (pl : List (Option aV)) (sk : List aV) (K : aKn) : Option (List aT) := match sk with
  | .inl x :: .inr (.inr (.inl p)) :: sk => bif Nat.ble 2000 p then (bif Nat.ble (p + 1) 2008 then (match aneed K (aix x (xSl.getD (p - 2000) 0)) with
      | none => none
      | some none => some []
      | some (some K1) => (match x.2 with
        | [] => some [(pc + 1, pl, .inl (aco ((xSb.getD (p - 2000) []).getD x.1.toNat 0).toInt) :: sk, K1)]
        | _ => some [(pc + 1, pl, .inl (afr K1 (0, 127)).1 :: sk, (afr K1 (0, 127)).2)])) else none)
    else (match aSha p with
      | some (.inl (.byte, n)) => ar1 (pc + 1) pl sk (aget prs K p x n)
      | some (.inl (.boolean, n)) => ar1 (pc + 1) pl sk (aget prs K p x n)
      | _ => none)
  | _ => none
theorem ao_bald_of (h : ao_bald prs pc pl sk K = some l) (hM : aInv M) (hR : aHR xs L prs M K ρ pl sk plc skc) : aOut xs L prs w M K ρ l (xo_bald (pc, plc, skc, 102, xsh0, M)) := by
  unfold ao_bald at h
  split at h
  · rename_i x p sk'
    obtain ⟨v, m, e⟩ := astk_cons hR.s
    subst e
    obtain ⟨i, e⟩ := aval_int hR.s.1
    subst e
    obtain ⟨v, m, e⟩ := astk_cons hR.s.2
    subst e
    have e := aval_ref hR.s.2.1
    subst e
    have hi : ∀ ρ', agr K.1 ρ ρ' → i.toInt = aev ρ' x := fun ρ' hr => (hR ρ' hr).2.2.1
    have hl : ∀ ρ', agr K.1 ρ ρ' → aloc ρ' pl plc ∧ astk ρ' sk' m := fun ρ' hr => ⟨(hR ρ' hr).2.1, (hR ρ' hr).2.2.2.2⟩
    cases c : Nat.ble 2000 p with
    | true =>
      rw [c] at h
      dsimp only [cond_true] at h
      cases c2 : Nat.ble (p + 1) 2008 with
      | false => rw [c2] at h; cases h
      | true =>
        rw [c2] at h
        dsimp only [cond_true] at h
        split at h
        · cases h
        · rename_i en
          obtain ⟨K', e', -⟩ := aneed_of hR.kn en
          cases e'
        · rename_i K1 en
          obtain ⟨K', e', s1, hK1, hc⟩ := aneed_of hR.kn en
          cases e'
          have hb := aix_of (hc ρ (agr_refl _ _))
          rw [← hi ρ (agr_refl _ _)] at hb
          obtain ⟨o1, o2⟩ := xout_ok hb.1 hb.2
          have hr : xo_bald (pc, plc, .int i :: .ref p :: m, 102, xsh0, M) = some (.inl (pc + 1, plc, .int ((xSb.getD (p - 2000) []).getD i.toNatClampNeg 0) :: m, 102, xsh0, M)) := by
            simp only [xo_bald, c, c2, cond_true, o1, cond_false]
          split at h
          · rename_i ex
            cases h
            refine aOut.new (plc' := plc) (skc' := .int ((xSb.getD (p - 2000) []).getD i.toNatClampNeg 0) :: m) hM hr (aNew.cong s1.1 (aNew.same (P := fun _ => True) hK1 (fun _ _ => trivial))) (fun ρ' hρ _ => ⟨(hl ρ' hρ).1, ?_, (hl ρ' hρ).2⟩)
            show _ = aev ρ' (aco _)
            rw [aev_co]
            have h1 := hi ρ' hρ
            rw [aev_nil ex] at h1
            have e : i.toNatClampNeg = x.1.toNat := by
              show i.toInt.toNat = _
              rw [h1]
            rw [e]
          · cases h
            exact aOut.new (plc' := plc) (skc' := .int ((xSb.getD (p - 2000) []).getD i.toNatClampNeg 0) :: m) hM hr (aNew.cong s1.1 (afr_of (q := (0, 127)) hK1 (xSb_b _ _))) (fun ρ' hρ hP => ⟨(hl ρ' hρ).1, hP, (hl ρ' hρ).2⟩)
    | false =>
      rw [c] at h
      dsimp only [cond_false] at h
      split at h
      · rename_i n es
        refine ar1_of hM hR.kn hi hl (fun ho => ?_) h
        simp only [xo_bald, c, cond_false, aSha_of es, ho]
      · rename_i n es
        refine ar1_of hM hR.kn hi hl (fun ho => ?_) h
        simp only [xo_bald, c, cond_false, aSha_of es, ho]
      · cases h
  · cases h
def ao_cald (prs : List (Nat × Nat)) (pc : Nat) (pl : List (Option aV)) (sk : List aV) (K : aKn) : Option (List aT) := match sk with
  | .inl x :: .inr (.inr (.inl p)) :: sk => (match aSha p with
      | some (.inl (.char, n)) => ar1 (pc + 1) pl sk (aget prs K p x n)
      | _ => none)
  | _ => none
theorem ao_cald_of (h : ao_cald prs pc pl sk K = some l) (hM : aInv M) (hR : aHR xs L prs M K ρ pl sk plc skc) : aOut xs L prs w M K ρ l (xo_cald (pc, plc, skc, 102, xsh0, M)) := by
  unfold ao_cald at h
  split at h
  · rename_i x p sk'
    obtain ⟨v, m, e⟩ := astk_cons hR.s
    subst e
    obtain ⟨i, e⟩ := aval_int hR.s.1
    subst e
    obtain ⟨v, m, e⟩ := astk_cons hR.s.2
    subst e
    have e := aval_ref hR.s.2.1
    subst e
    split at h
    · rename_i n es
      refine ar1_of hM hR.kn (fun ρ' hr => (hR ρ' hr).2.2.1) (fun ρ' hr => ⟨(hR ρ' hr).2.1, (hR ρ' hr).2.2.2.2⟩) (fun ho => ?_) h
      simp only [xo_cald, aSha_of es, ho, cond_false]
    · cases h
  · cases h
end AOP4
