/-! THE LAW ENDS WITH 1 -/
def xfin (r : xZ) : Prop := r.1 = some (.int 1) ∧ r.2.1 ≤ 102 ∧ xsl r.2.2.1 ≤ 2663
set_option maxRecDepth 100000 in
theorem law_begin (xs : Nat → Int32) (L : Nat) (k : PL xs L 231 (18, [some (.ref 999), some (.ref 0), some (.ref 56), some (.int 0)], [], 102, xsh0, xM0) xfin) : PL xs L 231 (0, xent 231 [.ref 999], [], 0, [], fun _ _ => 0) xfin := by
  refine PL.go (k := 2) (s' := (4, [some (.ref 999), none, none, none], [.ref 0, .ref 0], 1, [(Sum.inr (10, xini.getD 10 []) : xSh)], va_up (fun _ _ => 0) 0 (fun _ => 0))) rfl ?_
  refine PL.call0 (al := true) (n1 := 3000) (r := (none, 56, xsh1, xM1)) (z := 102) (as := [.ref 0]) (pc := 7) (pl := [some (.ref 999), none, none, none]) (st := [.ref 0]) (nz := 1) (sh := [(Sum.inr (10, xini.getD 10 []) : xSh)]) (M := va_up (fun _ _ => 0) 0 (fun _ => 0)) rfl (Nat.le_of_ble_eq_true rfl) xA1_eq rfl ?_
  show PL xs L 231 (7, [some (.ref 999), none, none, none], [.ref 0], 56, xsh1, xM1) _
  refine PL.go (k := 3) (s' := (12, [some (.ref 999), some (.ref 0), none, none], [.ref 56, .ref 56], 57, xsh1 ++ [(Sum.inr (11, xini.getD 11 []) : xSh)], va_up xM1 56 (fun _ => 0))) rfl ?_
  refine PL.call0 (al := true) (n1 := 3000) (r := (none, 102, xsh0, xM0)) (z := 153) (as := [.ref 56]) (pc := 15) (pl := [some (.ref 999), some (.ref 0), none, none]) (st := [.ref 56]) (nz := 57) (sh := xsh1 ++ [(Sum.inr (11, xini.getD 11 []) : xSh)]) (M := va_up xM1 56 (fun _ => 0)) rfl (Nat.le_of_ble_eq_true rfl) xA2_eq rfl ?_
  show PL xs L 231 (15, [some (.ref 999), some (.ref 0), none, none], [.ref 56], 102, xsh0, xM0) _
  refine PL.go (k := 3) (s' := (18, [some (.ref 999), some (.ref 0), some (.ref 56), some (.int 0)], [], 102, xsh0, xM0)) rfl ?_
  exact k
def rh0 (L : Nat) : Nat → Int := fun k => if k = 0 then (L : Int) else 0
set_option maxRecDepth 100000 in
theorem prs_0 : prs_law.all (fun pr => (match xsh0[pr.1]?, xsh0[pr.2]? with
  | some d, some d' => Nat.beq (xsl1 d) (xsl1 d') && (List.range (xsl1 d)).all (fun i => decide (xMt pr.1 i = xMt pr.2 i))
  | _, _ => false)) = true := by decide +kernel
theorem prs_eq {pr : Nat × Nat} (h : pr ∈ prs_law) (i : Nat) : xM0 pr.1 i = xM0 pr.2 i := by
  have h1 := List.all_eq_true.mp prs_0 pr h
  split at h1
  · rename_i d d' e1 e2
    rw [Bool.and_eq_true] at h1
    have hl : xsl1 d = xsl1 d' := Nat.eq_of_beq_eq_true h1.1
    by_cases hi : i < xsl1 d
    · rw [xM0_in e1 hi, xM0_in e2 (by omega)]
      exact of_decide_eq_true (List.all_eq_true.mp h1.2 i (List.mem_range.mpr hi))
    · rw [xzo_0 pr.1 i (fun d2 h2 => by rw [e1] at h2; cases h2; omega), xzo_0 pr.2 i (fun d2 h2 => by rw [e2] at h2; cases h2; omega)]
  · cases h1
theorem prs_ne : ∀ pr ∈ prs_law, pr.1 ≠ pr.2 := by decide
theorem law_hS (xs : Nat → Int32) (L : Nat) (hL : L ≤ 2560) : aHS xs L prs_law xM0 (3, [(0, (.ofNat 0, .ofNat 2560)), (1, (.ofNat 0, .ofNat 2147483647)), (2, (.ofNat 0, .ofNat 8))], [], [((51, (.ofNat 3, [])), (.ofNat 0, [(2, .ofNat 1)])), ((56, (.ofNat 55, [])), (.ofNat 0, [(2, .ofNat 1)]))], [], [], []) (rh0 L) [(231, 18, [some (.inr (.inr (.inl 999))), some (.inr (.inr (.inl 0))), some (.inr (.inr (.inl 56))), some (.inl (.ofNat 0, [(1, .ofNat 1)]))], [])] [(231, 18, [some (.ref 999), some (.ref 0), some (.ref 56), some (.int 0)], [])] := by
  intro ρ' h
  have e0 : ρ' 0 = (L : Int) := h 0 (Nat.zero_lt_succ 2)
  have e1 : ρ' 1 = 0 := h 1 (by decide)
  have e2 : ρ' 2 = 0 := h 2 (by decide)
  refine ⟨⟨Nat.zero_lt_succ 2, e0, ?_, fun f hf => (by cases hf), ?_, fun q hq => (by cases hq), fun j pr hj i => Or.inl (prs_eq (List.mem_of_getElem? hj) i), fun j r hj i => Or.inl (aRk_0 j r hj i)⟩, ⟨rfl, rfl, ⟨rfl, rfl, rfl, ?_, trivial⟩, trivial⟩, trivial⟩
  · refine aok_cons (aok_cons (aok_cons (fun t ht => (by cases ht)) ?_ ?_) ?_ ?_) ?_ ?_
    · show (0 : Int) ≤ ρ' 2; omega
    · show ρ' 2 ≤ (8 : Int); omega
    · show (0 : Int) ≤ ρ' 1; omega
    · show ρ' 1 ≤ (2147483647 : Int); omega
    · show (0 : Int) ≤ ρ' 0; omega
    · show ρ' 0 ≤ (2560 : Int); omega
  · refine acc_cons (acc_cons (fun q hq => (by cases hq)) (by show (0 : Int) ≤ 55 + 0; decide) ?_) (by show (0 : Int) ≤ 3 + 0; decide) ?_
    · show (xM0 56 55).toInt = 0 + (1 * ρ' 2 + 0)
      rw [xM0_in (p := 56) (i := 55) rfl (by decide), e2]
      decide
    · show (xM0 51 3).toInt = 0 + (1 * ρ' 2 + 0)
      rw [xM0_in (p := 51) (i := 3) rfl (by decide), e2]
      decide
  · show (0 : Int32).toInt = 0 + (1 * ρ' 1 + 0)
    rw [e1]
    decide
theorem law_true (xs : Nat → Int32) (L : Nat) (hL : L ≤ 2560) : ∃ n r, xrun xs L n 231 (0, xent 231 [.ref 999], [], 0, [], fun _ _ => 0) = some r ∧ r.1 = some (.int 1) ∧ r.2.1 ≤ 102 ∧ xsl r.2.2.1 ≤ 2663 := by
  have h := acksH_of (M0 := xM0) (Q := aPost (some (.ofNat 1, .ofNat 1)) w_law xM0) prs_ne hL (ds_law_of hL (aHand_of hL)) (fun r h => h) ck_law (fun c hc => by cases hc) _ (List.mem_append_left _ (List.mem_cons_self ..)) (rh0 L) xM0 _ (law_hS xs L hL) aInv_0 (aUnw.refl _ _)
  have h2 : PL xs L 231 (18, [some (.ref 999), some (.ref 0), some (.ref 56), some (.int 0)], [], 102, xsh0, xM0) xfin := PL.imp h (fun r hr => by
    obtain ⟨rv, r2⟩ := r
    obtain ⟨M', er, -, -, hres, -⟩ := hr
    have er : r2 = (102, xsh0, M') := er
    subst er
    match rv, hres with
    | some (.int x), hres =>
      have hx : (1 : Int) ≤ x.toInt ∧ x.toInt ≤ 1 := hres
      have hx1 : x = 1 := Int32.toInt_inj.mp (by show x.toInt = 1; omega)
      subst hx1
      exact ⟨rfl, Nat.le_refl _, Nat.le_of_eq xsl_sh0⟩)
  obtain ⟨n, r, h1, h3, h4, h5⟩ := law_begin xs L h2
  exact ⟨n, r, h1, h3, h4, h5⟩
