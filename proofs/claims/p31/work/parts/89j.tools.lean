/-! TOOLS FOR STEPS BY HAND: stores, returns, calls out of a state of the analyzer -/
section ATL
variable {xs : Nat → Int32} {L : Nat} {prs : List (Nat × Nat)} {ρ : Nat → Int} {M : xM} {Q : xZ → Prop}
/-- the knowledge without cells -/
def kcl (K : aKn) : aKn := (K.1, K.2.1, K.2.2.1, [], K.2.2.2.2.1, [], [])
theorem aKok_cl {K : aKn} {M' : xM} (h : aKok xs L prs aRws ρ K M) (hR : aRk M') : aKok xs L [] aRws ρ (kcl K) M' := by
  obtain ⟨k1, k2, k3, k4, k5, k6, k7, k8⟩ := h
  exact ⟨k1, k2, k3, k4, fun q hq => (by cases hq), k6, fun j pr hj => (by cases hj), fun j r hj i => Or.inl (hR j r hj i)⟩
theorem store_i {y pc len a b w p n : Nat} {pl : List (Option aV)} {sk : List aV} {fs : List aFr} {K : aKn} {i v : aL} {cfr : List cFr} (hI : xI y pc = some (.iastore, len, a, b, w)) (hs : xsh0[p]? = some (.inl (.int, n))) (hS : aHS xs L prs M K ρ ((y, pc, pl, .inl v :: .inl i :: .inr (.inr (.inl p)) :: sk) :: fs) cfr) (h0 : 0 ≤ aev ρ i) (h1 : aev ρ i < (n : Int))
    (k : ∀ (x : Int32) (cfr' : List cFr), x.toInt = aev ρ v → (∀ M', aRk M' → aHS xs L [] M' (kcl K) ρ ((y, pc + 1, pl, sk) :: fs) cfr') → aGl xs L Q (xup M p (aev ρ i).toNat x) cfr') : aGl xs L Q M cfr := by
  obtain ⟨plc, skc, m, e, hl, hst, hnl⟩ := afrs_cons (hS ρ (agr_refl _ _)).2
  obtain ⟨v1, sk1, f1, g1, hst⟩ := astkC hst
  obtain ⟨v2, sk2, f2, g2, hst⟩ := astkC hst
  obtain ⟨v3, sk3, f3, g3, hst⟩ := astkC hst
  obtain ⟨x1, a1, d1⟩ := avalI g1
  obtain ⟨x2, a2, d2⟩ := avalI g2
  have a3 := aval_ref g3
  subst a1; subst a2; subst a3; subst f3; subst f2; subst f1
  have hnc := natC d2 h0
  rw [e]
  show PL xs L y (pc, plc, .int x1 :: .int x2 :: .ref p :: sk3, 102, xsh0, M) _
  refine PL.next (ys_iast hI hs (by omega) (by omega)) ?_
  rw [hnc]
  refine k x1 ((y, pc + 1, plc, sk3) :: m) d1 (fun M' hR' ρ' hρ => ?_)
  have h := hS ρ' hρ
  rw [e] at h
  exact ⟨aKok_cl h.1 hR', ⟨rfl, rfl, h.2.1.2.2.1, h.2.1.2.2.2.2.2.2⟩, h.2.2⟩
theorem store_b {y pc len a b w p n : Nat} {pl : List (Option aV)} {sk : List aV} {fs : List aFr} {K : aKn} {i v : aL} {cfr : List cFr} (hI : xI y pc = some (.bastore, len, a, b, w)) (hs : xsh0[p]? = some (.inl (.boolean, n))) (hS : aHS xs L prs M K ρ ((y, pc, pl, .inl v :: .inl i :: .inr (.inr (.inl p)) :: sk) :: fs) cfr) (h0 : 0 ≤ aev ρ i) (h1 : aev ρ i < (n : Int)) (hv : 0 ≤ aev ρ v ∧ aev ρ v ≤ 1)
    (k : ∀ (x : Int32) (cfr' : List cFr), x.toInt = aev ρ v → (∀ M', aRk M' → aHS xs L [] M' (kcl K) ρ ((y, pc + 1, pl, sk) :: fs) cfr') → aGl xs L Q (xup M p (aev ρ i).toNat x) cfr') : aGl xs L Q M cfr := by
  obtain ⟨plc, skc, m, e, hl, hst, hnl⟩ := afrs_cons (hS ρ (agr_refl _ _)).2
  obtain ⟨v1, sk1, f1, g1, hst⟩ := astkC hst
  obtain ⟨v2, sk2, f2, g2, hst⟩ := astkC hst
  obtain ⟨v3, sk3, f3, g3, hst⟩ := astkC hst
  obtain ⟨x1, a1, d1⟩ := avalI g1
  obtain ⟨x2, a2, d2⟩ := avalI g2
  have a3 := aval_ref g3
  subst a1; subst a2; subst a3; subst f3; subst f2; subst f1
  have hnc := natC d2 h0
  rw [e]
  show PL xs L y (pc, plc, .int x1 :: .int x2 :: .ref p :: sk3, 102, xsh0, M) _
  have hst := ys_bast (xs := xs) (L := L) (y := y) (pc := pc) (pl := plc) (sk := sk3) (M := M) (x := x1) (i := x2) hI hs (by omega) (by omega)
  rw [vp_nar_bool (by omega) (by omega), hnc] at hst
  refine PL.next hst ?_
  refine k x1 ((y, pc + 1, plc, sk3) :: m) d1 (fun M' hR' ρ' hρ => ?_)
  have h := hS ρ' hρ
  rw [e] at h
  exact ⟨aKok_cl h.1 hR', ⟨rfl, rfl, h.2.1.2.2.1, h.2.1.2.2.2.2.2.2⟩, h.2.2⟩
/-- a return of the last frame -/
theorem ret_i {y pc len a b w : Nat} {pl : List (Option aV)} {K : aKn} {v : aL} {cfr : List cFr} (hI : xI y pc = some (.ireturn, len, a, b, w)) (hr : (xm y).2.2.2.1 = some .int) (hS : aHS xs L prs M K ρ [(y, pc, pl, [.inl v])] cfr) (k : ∀ x : Int32, x.toInt = aev ρ v → Q (some (.int x), 102, xsh0, M)) : aGl xs L Q M cfr := by
  obtain ⟨plc, skc, m, e, hl, hst, hnl⟩ := afrs_cons (hS ρ (agr_refl _ _)).2
  obtain ⟨v1, sk1, f1, g1, hst⟩ := astkC hst
  have f2 := astkN hst
  have f3 := afrs_nil hnl
  obtain ⟨x1, a1, d1⟩ := avalI g1
  subst a1; subst f2; subst f3; subst f1
  rw [e]
  show PL xs L y (pc, plc, [.int x1], 102, xsh0, M) _
  refine PL.ret (v := some (.int x1)) ?_ (k x1 d1)
  rw [xI_step hI]
  show xo_iret (xm y).2.2.2.1 (pc, plc, [.int x1], 102, xsh0, M) = _
  rw [hr]
  rfl
/-- one cell of a row of numbers, that has no field and stands in no row of two places, nor in X -/
theorem st_ok {p : Nat} {q : Int × Int} (hM : aInv M) (hR : aRk M) (hq : aIvA p = some q) (hA : aPrA p = false) (hF : aNoF p = true) (h56 : p ≠ 56) (hw : arwp p = false) (l : Nat) {x : Int32} (hx : q.1 ≤ x.toInt ∧ x.toInt ≤ q.2) : aInv (xup M p l x) ∧ aRk (xup M p l x) ∧ aUnw ([p], []) M (xup M p l x) := by
  have hne : ∀ p' i, p' ≠ p → xup M p l x p' i = M p' i := fun p' i h => xup_ne (Or.inl h)
  have hPF : ∀ i, aPrF p i = false := fun i => by
    cases c : aPrF p i with
    | false => rfl
    | true =>
      obtain ⟨t, ht, e⟩ := List.any_eq_true.mp c
      rw [Bool.and_eq_true] at e
      have h1 := Nat.eq_of_beq_eq_true e.1
      simp only [List.mem_cons, List.not_mem_nil, or_false] at ht
      rcases ht with rfl | rfl | rfl | rfl <;> exact absurd h1 h56
  refine ⟨⟨aIvOk_fr hM.1 (fun p' i => ?_), aX_fr hM.2 (fun p' i h => hne p' i (fun e => ?_))⟩, aRk_fr hR (fun p' i h => hne p' i (fun e => ?_)), fun p' i h => hne p' i (fun e => ?_)⟩
  · by_cases hp : p' = p
    · subst hp
      by_cases hi : i = l
      · subst hi
        refine Or.inr ⟨fun q' hq' => ?_, fun q' hq' => by rw [aNoF_of hF] at hq'; cases hq'⟩
        rw [xup_self]
        rw [hq] at hq'
        cases hq'
        exact hx
      · exact Or.inl (xup_ne (Or.inr hi))
    · exact Or.inl (hne p' i hp)
  · subst e; rw [hA, hPF] at h; cases h
  · subst e; rw [hw] at h; cases h
  · subst e
    unfold aWin at h
    simp only [List.any_cons, Nat.beq_refl, Bool.true_or] at h
    cases h
/-- what is known of an id, of a cell -/
theorem aHS.bd {K : aKn} {fr : List aFr} {cfr : List cFr} (hS : aHS xs L prs M K ρ fr cfr) {t : Nat × Int × Int} (h : t ∈ K.2.1) : t.2.1 ≤ ρ t.1 ∧ ρ t.1 ≤ t.2.2 := (hS ρ (agr_refl _ _)).1.2.2.1 t h
theorem aHS.ce {K : aKn} {fr : List aFr} {cfr : List cFr} (hS : aHS xs L prs M K ρ fr cfr) {q : (Nat × aL) × aL} (h : q ∈ K.2.2.2.1) : 0 ≤ aev ρ q.1.2 ∧ (M q.1.1 (aev ρ q.1.2).toNat).toInt = aev ρ q.2 := (hS ρ (agr_refl _ _)).1.2.2.2.2.1 q h
theorem aHS.fa {K : aKn} {fr : List aFr} {cfr : List cFr} (hS : aHS xs L prs M K ρ fr cfr) {f : aL} (h : f ∈ K.2.2.1) : aev ρ f ≤ 0 := (hS ρ (agr_refl _ _)).1.2.2.2.1 f h
end ATL
