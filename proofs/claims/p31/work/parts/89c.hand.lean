/-! STEPS BY HAND: what a state says, entries, stores -/
section AHA
variable {xs : Nat → Int32} {L : Nat} {prs : List (Nat × Nat)} {ρ : Nat → Int}
theorem aUnw_nil {M M' : xM} (h : aUnw ([], []) M M') : M' = M := by
  funext p i
  exact h p i rfl
theorem allc0 : ∀ c ∈ ([] : List aCt), aCon xs L c := fun c hc => by cases hc
theorem prs0 : ∀ pr ∈ ([] : List (Nat × Nat)), pr.1 ≠ pr.2 := fun pr hpr => by cases hpr
theorem aconv {fr fr' : List aFr} {K K' : aKn} {M : xM} {cfr : List cFr} (σ : aSg) (h : (achF σ fr fr' && achKU σ K K') = true) (hS : aHS xs L prs M K' ρ fr' cfr) : ∃ ρc, aHS xs L prs M K ρc fr cfr ∧ ∀ k f, alS σ k = some f → ρc k = aev ρ f := by
  rw [Bool.and_eq_true] at h
  exact achKU_of hS h.1 h.2
theorem aHS.rk {K : aKn} {M : xM} {fr : List aFr} {cfr : List cFr} (hS : aHS xs L prs M K ρ fr cfr) (hG : K.2.2.2.2.2.2 = []) : aRk M := fun j r hj i => by
  rcases (hS ρ (agr_refl _ _)).1.2.2.2.2.2.2.2 j r hj i with z | ⟨d, hd, -⟩
  · exact z
  · rw [hG] at hd
    cases hd
theorem aentry {c : aCt} {M : xM} {as : List Value} (hL : L ≤ 2560) (hRk : aRk M) (hpv : aPvs c.2.1 as) : ∃ ρ2, aHS xs L [] M (aK0 c) ρ2 [(c.1, 0, axent c.1 (aen c.2.1 1 [(0, (0, 2560))]).1, [])] [(c.1, 0, xent c.1 as, [])] := by
  obtain ⟨ρ2, g1, g2, g3⟩ := aen_of (n := 1) (E := [(0, (0, 2560))]) (ρ := fun _ => (L : Int)) hpv (fun ρ' hr t ht => by
    rcases List.mem_cons.mp ht with e | e
    · subst e
      have : ρ' 0 = (L : Int) := hr 0 (by decide)
      show (0 : Int) ≤ ρ' 0 ∧ ρ' 0 ≤ 2560
      omega
    · cases e)
  refine ⟨ρ2, fun ρ' hr => ?_⟩
  have hr : agr (aen c.2.1 1 [(0, (0, 2560))]).2.1 ρ2 ρ' := hr
  have h0 : ρ' 0 = (L : Int) := by rw [hr 0 g1, g2 0 (by decide)]
  exact ⟨⟨g1, h0, (g3 ρ' hr).1, fun f hf => (by cases hf), fun q hq => (by cases hq), fun q hq => (by cases hq), fun j pr hj => (by cases hj), fun j r hj i => Or.inl (hRk j r hj i)⟩, ⟨rfl, rfl, axent_of (g3 ρ' hr).2, trivial⟩, trivial⟩
-- ---- what frames say
theorem afrs_cons {a : aFr} {l : List aFr} {cfr : List cFr} (h : afrs ρ (a :: l) cfr) : ∃ plc skc m, cfr = (a.1, a.2.1, plc, skc) :: m ∧ aloc ρ a.2.2.1 plc ∧ astk ρ a.2.2.2 skc ∧ afrs ρ l m := by
  match cfr, h with
  | (y, pc, plc, skc) :: m, h =>
    have e1 : y = a.1 := h.1.1
    have e2 : pc = a.2.1 := h.1.2.1
    subst e1; subst e2
    exact ⟨plc, skc, m, rfl, h.1.2.2.1, h.1.2.2.2, h.2⟩
theorem afrs_nil {cfr : List cFr} (h : afrs ρ [] cfr) : cfr = [] := by
  match cfr, h with
  | [], _ => rfl
theorem alocC {a : Option aV} {l : List (Option aV)} {c : List (Option Value)} (h : aloc ρ (a :: l) c) : ∃ v m, c = v :: m ∧ alo1 ρ a v ∧ aloc ρ l m := by
  match c, h with
  | v :: m, h => exact ⟨v, m, rfl, h.1, h.2⟩
theorem alocN {c : List (Option Value)} (h : aloc ρ [] c) : c = [] := by
  match c, h with
  | [], _ => rfl
theorem astkC {a : aV} {l : List aV} {c : List Value} (h : astk ρ (a :: l) c) : ∃ v m, c = v :: m ∧ aval ρ a v ∧ astk ρ l m := by
  match c, h with
  | v :: m, h => exact ⟨v, m, rfl, h.1, h.2⟩
theorem astkN {c : List Value} (h : astk ρ [] c) : c = [] := by
  match c, h with
  | [], _ => rfl
theorem alo1I {l : aL} {v : Option Value} (h : alo1 ρ (some (.inl l)) v) : ∃ x : Int32, v = some (.int x) ∧ x.toInt = aev ρ l := by
  match v, h with
  | some (.int x), h => exact ⟨x, rfl, h⟩
theorem alo1R {p : Nat} {v : Option Value} (h : alo1 ρ (some (.inr (.inr (.inl p)))) v) : v = some (.ref p) := by
  match v, h with
  | some (.ref q), h => exact congrArg (fun q => some (Value.ref q)) h
theorem avalI {l : aL} {v : Value} (h : aval ρ (.inl l) v) : ∃ x : Int32, v = .int x ∧ x.toInt = aev ρ l := by
  match v, h with
  | .int x, h => exact ⟨x, rfl, h⟩
-- ---- steps
theorem xI_step {y pc : Nat} {e : xEn} {pl : List (Option Value)} {sk : List Value} {M : xM} (hI : xI y pc = some e) : xstep xs L y (pc, pl, sk, 102, xsh0, M) = xex xs L y e (pc, pl, sk, 102, xsh0, M) := by
  unfold xstep
  dsimp only
  rw [hI]
theorem ys_iast {y pc len a b w p n : Nat} {pl : List (Option Value)} {sk : List Value} {M : xM} {x i : Int32} (hI : xI y pc = some (.iastore, len, a, b, w)) (hs : xsh0[p]? = some (.inl (.int, n))) (h0 : 0 ≤ i.toInt) (h1 : i.toInt < (n : Int)) : xstep xs L y (pc, pl, .int x :: .int i :: .ref p :: sk, 102, xsh0, M) = some (.inl (pc + 1, pl, sk, 102, xsh0, xup M p i.toNatClampNeg x)) := by
  rw [xI_step hI]
  show xo_iast (pc, pl, .int x :: .int i :: .ref p :: sk, 102, xsh0, M) = _
  unfold xo_iast
  dsimp only
  rw [hs]
  dsimp only
  rw [(xout_ok h0 h1).1]
  rfl
theorem ys_bast {y pc len a b w p n : Nat} {pl : List (Option Value)} {sk : List Value} {M : xM} {x i : Int32} (hI : xI y pc = some (.bastore, len, a, b, w)) (hs : xsh0[p]? = some (.inl (.boolean, n))) (h0 : 0 ≤ i.toInt) (h1 : i.toInt < (n : Int)) : xstep xs L y (pc, pl, .int x :: .int i :: .ref p :: sk, 102, xsh0, M) = some (.inl (pc + 1, pl, sk, 102, xsh0, xup M p i.toNatClampNeg (vp_nar .boolean x))) := by
  rw [xI_step hI]
  show xo_bast (pc, pl, .int x :: .int i :: .ref p :: sk, 102, xsh0, M) = _
  unfold xo_bast
  dsimp only
  rw [hs]
  dsimp only
  rw [(xout_ok h0 h1).1]
  rfl
theorem ys_iald {y pc len a b w p n : Nat} {pl : List (Option Value)} {sk : List Value} {M : xM} {i : Int32} (hI : xI y pc = some (.iaload, len, a, b, w)) (hp : Nat.beq p 999 = false) (hs : xsh0[p]? = some (.inl (.int, n))) (h0 : 0 ≤ i.toInt) (h1 : i.toInt < (n : Int)) : xstep xs L y (pc, pl, .int i :: .ref p :: sk, 102, xsh0, M) = some (.inl (pc + 1, pl, .int (M p i.toNatClampNeg) :: sk, 102, xsh0, M)) := by
  rw [xI_step hI]
  show xo_iald xs L (pc, pl, .int i :: .ref p :: sk, 102, xsh0, M) = _
  unfold xo_iald
  dsimp only
  rw [hp, hs]
  dsimp only [cond_false]
  rw [(xout_ok h0 h1).1]
  rfl
/-- a number of a cell by its index -/
theorem natC {i : Int32} {k : Int} (h : i.toInt = k) (h0 : 0 ≤ k) : i.toNatClampNeg = k.toNat := by
  have := (xout_ok (i := i) (n := i.toNatClampNeg + 1 + k.toNat) (by omega) (by omega)).2
  omega
end AHA
