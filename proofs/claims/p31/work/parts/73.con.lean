/-! THE ANALYZER, twelve: a contract out of a run -/
section ACO
variable {xs : Nat → Int32} {L : Nat}
def aen : List aPt → Nat → aE → List aV × Nat × aE
  | [], n, E => ([], n, E)
  | .inl q :: l, n, E => bif ieqb q.1 q.2 then (.inl (aco q.1) :: (aen l n E).1, (aen l n E).2) else (.inl (aid n) :: (aen l (n + 1) ((n, q) :: E)).1, (aen l (n + 1) ((n, q) :: E)).2)
  | .inr (.inl _) :: l, n, E => (.inr (.inl none) :: (aen l n E).1, (aen l n E).2)
  | .inr (.inr p) :: l, n, E => (.inr (.inr (.inl p)) :: (aen l n E).1, (aen l n E).2)
theorem aen_of : ∀ {ps : List aPt} {vs : List Value} {n : Nat} {E : aE} {ρ : Nat → Int}, aPvs ps vs → (∀ ρ', agr n ρ ρ' → aok ρ' E) → ∃ ρ2, n ≤ (aen ps n E).2.1 ∧ agr n ρ ρ2 ∧ ∀ ρ', agr (aen ps n E).2.1 ρ2 ρ' → aok ρ' (aen ps n E).2.2 ∧ astk ρ' (aen ps n E).1 vs
  | [], [], n, E, ρ, _, hE => ⟨ρ, Nat.le_refl _, agr_refl _ _, fun ρ' h => ⟨hE ρ' h, trivial⟩⟩
  | .inl q :: l, .int x :: vs, n, E, ρ, h, hE => by
    have hq : q.1 ≤ x.toInt ∧ x.toInt ≤ q.2 := h.1
    unfold aen
    cases c : ieqb q.1 q.2 with
    | true =>
      rw [ieqb_iff] at c
      obtain ⟨ρ2, h1, h2, h3⟩ := aen_of (ps := l) h.2 hE
      refine ⟨ρ2, h1, h2, fun ρ' hr => ⟨(h3 ρ' hr).1, ?_, (h3 ρ' hr).2⟩⟩
      show x.toInt = aev ρ' (aco q.1)
      rw [aev_co]
      omega
    | false =>
      have hE2 : ∀ ρ', agr (n + 1) (apush ρ n x.toInt) ρ' → aok ρ' ((n, q) :: E) := fun ρ' hr => by
        have hn : ρ' n = x.toInt := (hr n (Nat.lt_succ_self n)).trans apush_self
        exact aok_cons (hE ρ' (agr_trans (Nat.le_succ n) apush_agr hr)) (by show q.1 ≤ ρ' n; rw [hn]; exact hq.1) (by show ρ' n ≤ q.2; rw [hn]; exact hq.2)
      obtain ⟨ρ2, h1, h2, h3⟩ := aen_of (ps := l) h.2 hE2
      refine ⟨ρ2, Nat.le_trans (Nat.le_succ n) h1, agr_trans (Nat.le_succ n) apush_agr h2, fun ρ' hr => ⟨(h3 ρ' hr).1, ?_, (h3 ρ' hr).2⟩⟩
      show x.toInt = aev ρ' (aid n)
      rw [aev_id, hr n (Nat.lt_of_lt_of_le (Nat.lt_succ_self n) h1), h2 n (Nat.lt_succ_self n)]
      exact apush_self.symm
  | .inr (.inl _) :: l, .long x :: vs, n, E, ρ, h, hE => by
    obtain ⟨ρ2, h1, h2, h3⟩ := aen_of (ps := l) h.2 hE
    exact ⟨ρ2, h1, h2, fun ρ' hr => ⟨(h3 ρ' hr).1, trivial, (h3 ρ' hr).2⟩⟩
  | .inr (.inr p) :: l, .ref q :: vs, n, E, ρ, h, hE => by
    obtain ⟨ρ2, h1, h2, h3⟩ := aen_of (ps := l) h.2 hE
    exact ⟨ρ2, h1, h2, fun ρ' hr => ⟨(h3 ρ' hr).1, h.1, (h3 ρ' hr).2⟩⟩
def awl (n : Nat) (l : aL) : Bool := l.2.all (fun t => Nat.ble (t.1 + 1) n)
theorem awlT {n : Nat} {ρ ρ' : Nat → Int} (h : agr n ρ ρ') : ∀ {l : List (Nat × Int)}, l.all (fun t => Nat.ble (t.1 + 1) n) = true → aevT ρ' l = aevT ρ l
  | [], _ => rfl
  | t :: l, e => by
    rw [List.all_cons, Bool.and_eq_true] at e
    show t.2 * ρ' t.1 + aevT ρ' l = t.2 * ρ t.1 + aevT ρ l
    rw [awlT h e.2, h t.1 (Nat.le_of_ble_eq_true e.1)]
theorem awl_of {n : Nat} {ρ ρ' : Nat → Int} {l : aL} (h : agr n ρ ρ') (e : awl n l = true) : aev ρ' l = aev ρ l := by
  unfold aev
  rw [awlT h e]
/-- all cuts are alike long, and run to cuts that are less -/
def acks (prs : List (Nat × Nat)) (cts : List aCt) (w : aW) (res : Option (Int × Int)) (k N : Nat) (cuts cs : List aCut) : Bool := cs.all (fun c => Nat.beq c.2.2.length k && c.2.2.all (awl c.2.1.1) && arun prs cts w cuts (some c.2.2) res N c.1 c.2.1)
theorem acks_of {prs : List (Nat × Nat)} {cts : List aCt} {w : aW} {res : Option (Int × Int)} {k N : Nat} {cuts : List aCut} {M0 : xM} (hp : ∀ pr ∈ prs, pr.1 ≠ pr.2) (hL : L ≤ 2560) (hct : ∀ c ∈ cts, aCon xs L c) (h : acks prs cts w res k N cuts cuts = true) : ∀ c ∈ cuts, ∀ (ρ : Nat → Int) (M : xM) (cfr : List cFr), aHS xs L prs M c.2.1 ρ c.1 cfr → aInv M → aUnw w M0 M → aGl xs L (aPost res w M0) M cfr := by
  have key : ∀ v : List Nat, Acc aLt v → v.length = k → ∀ c ∈ cuts, ∀ (ρ : Nat → Int) (M : xM) (cfr : List cFr), c.2.2.map (fun m => (aev ρ m).toNat) = v → aHS xs L prs M c.2.1 ρ c.1 cfr → aInv M → aUnw w M0 M → aGl xs L (aPost res w M0) M cfr := by
    intro v hv
    induction hv with
    | intro v _ ih =>
      intro hl c hc ρ M cfr hcv hS hM hU
      have hk := List.all_eq_true.mp h c hc
      rw [Bool.and_eq_true, Bool.and_eq_true] at hk
      refine arun_of hp hL hct (ms := some c.2.2) (v := v) (cuts := cuts) ?_ N c.1 c.2.1 ρ M cfr hk.2 hS hM hU ?_
      · intro c' hc' ρ' M' cfr' hS' hM' hU' ha
        rcases ha with ha | ha
        · cases ha
        · have hk' := List.all_eq_true.mp h c' hc'
          rw [Bool.and_eq_true, Bool.and_eq_true] at hk'
          have hl' : (c'.2.2.map (fun m => (aev ρ' m).toNat)).length = k := by rw [List.length_map]; exact Nat.eq_of_beq_eq_true hk'.1.1
          exact ih _ ⟨hl'.trans hl.symm, ha⟩ hl' c' hc' ρ' M' cfr' rfl hS' hM' hU'
      · intro os hos ρ' hρ
        cases hos
        rw [← hcv]
        exact List.map_congr_left (fun m hm => by rw [awl_of hρ (List.all_eq_true.mp hk.1.2 m hm)])
  intro c hc ρ M cfr hS hM hU
  have hk := List.all_eq_true.mp h c hc
  rw [Bool.and_eq_true, Bool.and_eq_true] at hk
  have hl : (c.2.2.map (fun m => (aev ρ m).toNat)).length = k := by rw [List.length_map]; exact Nat.eq_of_beq_eq_true hk.1.1
  exact key _ (alt_acc k _ hl) hl c hc ρ M cfr rfl hS hM hU
def aK0 (c : aCt) : aKn := ((aen c.2.1 1 [(0, (0, 2560))]).2.1, (aen c.2.1 1 [(0, (0, 2560))]).2.2, [], [], [], [], [])
def ackc (cts : List aCt) (c : aCt) (cuts : List aCut) (k N : Nat) : Bool := anil c.2.2.1 && (arun [] cts c.2.2.2.2 cuts none c.2.2.2.1 N [(c.1, 0, axent c.1 (aen c.2.1 1 [(0, (0, 2560))]).1, [])] (aK0 c) && acks [] cts c.2.2.2.2 c.2.2.2.1 k N cuts cuts)
theorem ackc_of {cts : List aCt} {c : aCt} {cuts : List aCut} {k N : Nat} (hL : L ≤ 2560) (hct : ∀ c ∈ cts, aCon xs L c) (h : ackc cts c cuts k N = true) : aCon xs L c := by
  unfold ackc at h
  rw [Bool.and_eq_true, Bool.and_eq_true] at h
  obtain ⟨h1, h2, h3⟩ := h
  intro M as hM hRk hpv _
  have hp : ∀ pr ∈ ([] : List (Nat × Nat)), pr.1 ≠ pr.2 := fun pr hpr => by cases hpr
  obtain ⟨ρ2, g1, g2, g3⟩ := aen_of (n := 1) (E := [(0, (0, 2560))]) (ρ := fun _ => (L : Int)) hpv (fun ρ' hr t ht => by
    rcases List.mem_cons.mp ht with e | e
    · subst e
      have : ρ' 0 = (L : Int) := hr 0 (by decide)
      show (0 : Int) ≤ ρ' 0 ∧ ρ' 0 ≤ 2560
      omega
    · cases e)
  have hcuts := acks_of (M0 := M) hp hL hct h3
  refine arun_of (ms := none) (v := []) (M0 := M) hp hL hct (fun c' hc' ρ' M' cfr' hS' hM' hU' _ => hcuts c' hc' ρ' M' cfr' hS' hM' hU') N _ (aK0 c) ρ2 M [(c.1, 0, xent c.1 as, [])] h2 (fun ρ' hr => ?_) hM (aUnw.refl _ M) (fun os hos => by cases hos)
  have hr : agr (aen c.2.1 1 [(0, (0, 2560))]).2.1 ρ2 ρ' := hr
  have h0 : ρ' 0 = (L : Int) := by rw [hr 0 g1, g2 0 (by decide)]
  refine ⟨⟨g1, h0, (g3 ρ' hr).1, fun f hf => (by cases hf), fun q hq => (by cases hq), fun q hq => (by cases hq), fun j pr hj => (by cases hj), fun j r hj i => Or.inl (hRk j r hj i)⟩, ⟨rfl, rfl, axent_of (g3 ρ' hr).2, trivial⟩, trivial⟩
end ACO
