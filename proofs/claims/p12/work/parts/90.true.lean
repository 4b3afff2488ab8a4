/-! THE LAW ENDS WITH 1 -/
def xfin (r : xZ) : Prop := r.1 = some (.int 1) ∧ r.2.1 ≤ 102 ∧ xsl r.2.2.1 ≤ 2663
set_option maxRecDepth 100000 in
theorem law_begin (xs : Nat → Int32) (L : Nat) (k : PL xs L 231 (18, [some (.ref 999), some (.ref 0), some (.ref 56), some (.int 0)], [], 102, xsh0, xM0) xfin) : PL xs L 231 (0, xent 231 [.ref 999], [], 0, [], fun _ _ => 0) xfin := by
  refine PL.go (k := 2) (s' := (4, [some (.ref 999), none, none, none], [.ref 0, .ref 0], 1, [(Sum.inr (10, xini.getD 10 []) : xSh)], va_up (fun _ _ => 0) 0 (fun _ => 0))) rfl ?_
  refine PL.call0 (al := true) (n1 := 3000) (r := (none, 56, xsh1, xM1)) (z := 102) (as := [.ref 0]) (pc := 7) (pl := [some (.ref 999), none, none, none]) (st := [.ref 0]) (nz := 1) (sh := [(Sum.inr (10, xini.getD 10 []) : xSh)]) (M := va_up (fun _ _ => 0) 0 (fun _ => 0)) rfl (Nat.le_of_ble_eq_true rfl) xA1_eq rfl ?_
  show PL xs L 231 (7, [some (.ref 999), none, none, none], [.ref 0], 56, xsh1, xM1) _
  refine PL.go (k := 3) (s' := (12, [some (.ref 999), some (.ref 0), none, none], [.ref 56, .ref 56], 57, xsh1 ++ [(Sum.inr (11, xini.getD 11 []) : xSh)], va_up xM1 56 (fun _ => 0))) rfl ?_
  refine PL.call0 (al := true) (n1 := 3000) (r := (none, 102, xsh0, xM0)) (z := 153) (as := [.ref 56]) (pc := 15) (pl := [some (.ref 999), some (.ref 0), none, none]) (st := [.ref 56]) (nz := 57) (sh := xsh1 ++ [(Sum.inr (11, xini.getD 11 []) : xSh)]) (M := va_up xM1 56 (fun _ => 0)) rfl (Nat.le_of_ble_eq_true rfl) xA2_eq rfl ?_
  show PL xs L 231 (15, [some (.ref 999), some (.ref 0), none, none], [.ref 56], 102, xsh0, xM0) _
  refine PL.go (k := 3) (s' := (18, [some (.ref 999), some (.ref 0), some (.ref 56), some (.int 0)], [], 102, xsh0, xM0)) rfl ?_
  exact k
def rh0 (L : Nat) : Nat → Int := fun k => if k = 0 then (L : Int) else 0
theorem prs_ne : ∀ pr ∈ prs_law, pr.1 ≠ pr.2 := by decide
theorem law_hS (xs : Nat → Int32) (L : Nat) (hL : L ≤ 2560) : aHS xs L prs_law xM0 (4, [(0, (.ofNat 0, .ofNat 2560)), (1, (.ofNat 0, .ofNat 2147483647)), (2, (.ofNat 0, .ofNat 120)), (3, (.ofNat 0, .ofNat 10))], [], [((15, (.ofNat 1, [])), (.ofNat 0, [(2, .ofNat 1)])), ((56, (.ofNat 16, [])), (.ofNat 0, [(2, .ofNat 1)])), ((17, (.ofNat 8, [])), (.ofNat 0, [(3, .ofNat 1)])), ((56, (.ofNat 17, [])), (.ofNat 0, [(3, .ofNat 1)]))], [], [], []) (rh0 L) [(231, 18, [some (.inr (.inr (.inl 999))), some (.inr (.inr (.inl 0))), some (.inr (.inr (.inl 56))), some (.inl (.ofNat 0, [(1, .ofNat 1)]))], [])] [(231, 18, [some (.ref 999), some (.ref 0), some (.ref 56), some (.int 0)], [])] := by
  intro ρ' h
  have e0 : ρ' 0 = (L : Int) := h 0 (Nat.zero_lt_succ 3)
  have e1 : ρ' 1 = 0 := h 1 (by decide)
  have e2 : ρ' 2 = 0 := h 2 (by decide)
  have e3 : ρ' 3 = 0 := h 3 (by decide)
  refine ⟨⟨Nat.zero_lt_succ 3, e0, ?_, fun f hf => (by cases hf), ?_, fun q hq => (by cases hq), fun j pr hj => (by cases hj), fun j r hj i => Or.inl (aRk_0 j r hj i)⟩, ⟨rfl, rfl, ⟨rfl, rfl, rfl, ?_, trivial⟩, trivial⟩, trivial⟩
  · refine aok_cons (aok_cons (aok_cons (aok_cons (fun t ht => (by cases ht)) ?_ ?_) ?_ ?_) ?_ ?_) ?_ ?_
    · show (0 : Int) ≤ ρ' 3; omega
    · show ρ' 3 ≤ (10 : Int); omega
    · show (0 : Int) ≤ ρ' 2; omega
    · show ρ' 2 ≤ (120 : Int); omega
    · show (0 : Int) ≤ ρ' 1; omega
    · show ρ' 1 ≤ (2147483647 : Int); omega
    · show (0 : Int) ≤ ρ' 0; omega
    · show ρ' 0 ≤ (2560 : Int); omega
  · refine acc_cons (acc_cons (acc_cons (acc_cons (fun q hq => (by cases hq)) (by show (0 : Int) ≤ 17 + 0; decide) ?_) (by show (0 : Int) ≤ 8 + 0; decide) ?_) (by show (0 : Int) ≤ 16 + 0; decide) ?_) (by show (0 : Int) ≤ 1 + 0; decide) ?_
    · show (xM0 56 17).toInt = 0 + (1 * ρ' 3 + 0)
      rw [xM0_in (p := 56) (i := 17) rfl (by decide), e3]
      decide
    · show (xM0 17 8).toInt = 0 + (1 * ρ' 3 + 0)
      rw [xM0_in (p := 17) (i := 8) rfl (by decide), e3]
      decide
    · show (xM0 56 16).toInt = 0 + (1 * ρ' 2 + 0)
      rw [xM0_in (p := 56) (i := 16) rfl (by decide), e2]
      decide
    · show (xM0 15 1).toInt = 0 + (1 * ρ' 2 + 0)
      rw [xM0_in (p := 15) (i := 1) rfl (by decide), e2]
      decide
  · show (0 : Int32).toInt = 0 + (1 * ρ' 1 + 0)
    rw [e1]
    decide
theorem fin_of {w : aW} {M : xM} {r : xZ} (hr : aPost (some (.ofNat 1, .ofNat 1)) w M r) : xfin r := by
  obtain ⟨rv, r2⟩ := r
  obtain ⟨M', er, -, -, hres, -⟩ := hr
  have er : r2 = (102, xsh0, M') := er
  subst er
  match rv, hres with
  | some (.int x), hres =>
    have hx : (1 : Int) ≤ x.toInt ∧ x.toInt ≤ 1 := hres
    have hx1 : x = 1 := Int32.toInt_inj.mp (by show x.toInt = 1; omega)
    subst hx1
    exact ⟨rfl, Nat.le_refl _, Nat.le_of_eq xsl_sh0⟩
theorem bJ_kept {M M' : xM} (hJ : bJ M) (hU : aUnw w_law M M') : bJ M' := ⟨fun i => by rw [hU 16 i rfl, hU 70 i rfl]; exact hJ.1 i, lOk_kept (fun p i h1 h2 => by rcases p79 h1 h2 with e | e | e <;> subst e <;> rfl) hJ.2 hU⟩
set_option maxRecDepth 100000 in
theorem ze_0 : [16, 70].all (fun p => (match xsh0[p]? with
  | some d => (List.range (xsl1 d)).all (fun i => decide (xMt p i = 0))
  | none => false)) = true := by decide +kernel
theorem ze_eq {p : Nat} (h : p ∈ [16, 70]) (i : Nat) : xM0 p i = 0 := by
  have h1 := List.all_eq_true.mp ze_0 p h
  split at h1
  · rename_i d e1
    by_cases hi : i < xsl1 d
    · rw [xM0_in e1 hi]
      exact of_decide_eq_true (List.all_eq_true.mp h1 i (List.mem_range.mpr hi))
    · rw [xzo_0 p i (fun d2 h2 => by rw [e1] at h2; cases h2; omega)]
  · cases h1
set_option maxRecDepth 100000 in
theorem le_0 : cons_.all (fun t => (match xsh0[t.1]? with
  | some d => Nat.ble (t.2.1 + 1) (xsl1 d) && decide ((xMt t.1 t.2.1).toInt = t.2.2)
  | none => false)) = true := by decide +kernel
theorem bJ_0 : bJ xM0 := by
  refine ⟨fun i => ?_, fun t ht => ?_⟩
  · rw [ze_eq (p := 16) (by decide), ze_eq (p := 70) (by decide)]
    decide
  · have h1 := List.all_eq_true.mp le_0 t ht
    split at h1
    · rename_i d e1
      rw [Bool.and_eq_true] at h1
      rw [xM0_in e1 (Nat.le_of_ble_eq_true h1.1)]
      exact of_decide_eq_true h1.2
    · cases h1
def lfe (xs : Nat → Int32) (i : Int32) : Int64 := ((xs (i + 1).toNatClampNeg).toInt64 <<< ((32 : Int32).toInt64 &&& 63)) ||| ((xs (i + 2).toNatClampNeg).toInt64 &&& Int64.ofNat 4294967295)
theorem ys_scr {xs : Nat → Int32} {L y pc len a b w : Nat} {pl : List (Option Value)} {sk : List Value} {M : xM} {i : Int32} (hI : xI y pc = some (.iaload, len, a, b, w)) (h0 : 0 ≤ i.toInt) (h1 : i.toInt < (L : Int)) : xstep xs L y (pc, pl, .int i :: .ref 999 :: sk, 102, xsh0, M) = some (.inl (pc + 1, pl, .int (xs i.toNatClampNeg) :: sk, 102, xsh0, M)) := by
  rw [xI_step hI]
  show xo_iald xs L (pc, pl, .int i :: .ref 999 :: sk, 102, xsh0, M) = _
  unfold xo_iald
  dsimp only
  rw [show Nat.beq 999 999 = true from rfl, cond_true, (xout_ok h0 h1).1]
  rfl
theorem i32_addc {i c : Int32} (h0 : 0 ≤ i.toInt) (h1 : i.toInt ≤ 2560) (h2 : 0 ≤ c.toInt) (h3 : c.toInt ≤ 5) : (i + c).toInt = i.toInt + c.toInt := by
  rw [Int32.toInt_add, Int.bmod_eq_of_le (by omega) (by omega)]
theorem fa_C {xs : Nat → Int32} {L : Nat} {M : xM} {Q : xZ → Prop} {i : Int32} {st : List Value} (h1 : 0 ≤ (i + 1).toInt ∧ (i + 1).toInt < L) (h2 : 0 ≤ (i + 2).toInt ∧ (i + 2).toInt < L) (h3 : 0 ≤ (i + 3).toInt ∧ (i + 3).toInt < L) (kk : PL xs L 231 (513, [some (.ref 999), some (.ref 0), some (.ref 56), some (.int i)], .int (xs (i + 3).toNatClampNeg) :: .long (lfe xs i) :: .ref 0 :: st, 102, xsh0, M) Q) : PL xs L 231 (487, [some (.ref 999), some (.ref 0), some (.ref 56), some (.int i)], st, 102, xsh0, M) Q :=
  PL.go (k := 5) (s' := (492, [some (.ref 999), some (.ref 0), some (.ref 56), some (.int i)], .int (i + 1) :: .ref 999 :: .ref 0 :: st, 102, xsh0, M)) rfl (PL.next (ys_scr (pc := 492) rfl h1.1 h1.2) (PL.go (k := 7) (s' := (501, [some (.ref 999), some (.ref 0), some (.ref 56), some (.int i)], .int (i + 2) :: .ref 999 :: .long ((xs (i + 1).toNatClampNeg).toInt64 <<< ((32 : Int32).toInt64 &&& 63)) :: .ref 0 :: st, 102, xsh0, M)) rfl (PL.next (ys_scr (pc := 501) rfl h2.1 h2.2) (PL.go (k := 8) (s' := (512, [some (.ref 999), some (.ref 0), some (.ref 56), some (.int i)], .int (i + 3) :: .ref 999 :: .long (lfe xs i) :: .ref 0 :: st, 102, xsh0, M)) rfl (PL.next (ys_scr (pc := 512) rfl h3.1 h3.2) kk)))))
theorem fa_M {xs : Nat → Int32} {L : Nat} {M : xM} {Q : xZ → Prop} {i : Int32} {st : List Value} (h1 : 0 ≤ (i + 1).toInt ∧ (i + 1).toInt < L) (h2 : 0 ≤ (i + 2).toInt ∧ (i + 2).toInt < L) (h3 : 0 ≤ (i + 3).toInt ∧ (i + 3).toInt < L) (kk : PL xs L 231 (543, [some (.ref 999), some (.ref 0), some (.ref 56), some (.int i)], .int (xs (i + 3).toNatClampNeg) :: .long (lfe xs i) :: .ref 56 :: st, 102, xsh0, M) Q) : PL xs L 231 (517, [some (.ref 999), some (.ref 0), some (.ref 56), some (.int i)], st, 102, xsh0, M) Q :=
  PL.go (k := 5) (s' := (522, [some (.ref 999), some (.ref 0), some (.ref 56), some (.int i)], .int (i + 1) :: .ref 999 :: .ref 56 :: st, 102, xsh0, M)) rfl (PL.next (ys_scr (pc := 522) rfl h1.1 h1.2) (PL.go (k := 7) (s' := (531, [some (.ref 999), some (.ref 0), some (.ref 56), some (.int i)], .int (i + 2) :: .ref 999 :: .long ((xs (i + 1).toNatClampNeg).toInt64 <<< ((32 : Int32).toInt64 &&& 63)) :: .ref 56 :: st, 102, xsh0, M)) rfl (PL.next (ys_scr (pc := 531) rfl h2.1 h2.2) (PL.go (k := 8) (s' := (542, [some (.ref 999), some (.ref 0), some (.ref 56), some (.int i)], .int (i + 3) :: .ref 999 :: .long (lfe xs i) :: .ref 56 :: st, 102, xsh0, M)) rfl (PL.next (ys_scr (pc := 542) rfl h3.1 h3.2) kk)))))
def rx (L i t r v : Int) : Nat → Int
  | 0 => L
  | 1 => i
  | 2 => t
  | 3 => r
  | _ => v
section AZL
variable {xs : Nat → Int32} {L : Nat} {ρ : Nat → Int} {M : xM}
/-- behind both calls: on to the law's loop -/
theorem law_end (hL : L ≤ 2560) {pc : Nat} {stA : List aV} {stC : List Value} {i v : Int32} {ms : List aL} (hms : ms = msX) (hr : arunH prs_law ds_law w_law cu_law 1 (some msX) (some (.ofNat 1, .ofNat 1)) 200 [(231, pc, plX, stA)] kX = true) (hst : ∀ ρ' : Nat → Int, ρ' 4 = v.toInt → astk ρ' stA stC) (hIH : ∀ c' ∈ cu_law, ∀ (ρ' : Nat → Int) (M' : xM) (cfr' : List cFr), alt (c'.2.2.map (fun m => (aev ρ' m).toNat)) (ms.map (fun m => (aev ρ m).toNat)) → bJ M' → aHS xs L prs_law M' c'.2.1 ρ' c'.1 cfr' → aInv M' → aGl xs L xfin M' cfr') (h0 : ρ 0 = (L : Int)) (h1 : ρ 1 = i.toInt) (hJ : bJ M) (hM : aInv M) (hR : aRk M) (k1 : (M 15 1).toInt = (M 56 16).toInt) (k2 : (M 17 8).toInt = (M 56 17).toInt) (hi0 : 0 ≤ i.toInt) (hi5 : i.toInt + 5 ≤ L) : aGl xs L xfin M [(231, pc, [some (.ref 999), some (.ref 0), some (.ref 56), some (.int i)], stC)] := by
  subst hms
  have t1 := hM.1.2 15 1 (0, 120) rfl
  have t2 := hM.1.2 17 8 (0, 10) rfl
  dsimp only at t1 t2
  have hS : aHS xs L prs_law M kX (rx L i.toInt (M 15 1).toInt (M 17 8).toInt v.toInt) [(231, pc, plX, stA)] [(231, pc, [some (.ref 999), some (.ref 0), some (.ref 56), some (.int i)], stC)] := by
    intro ρ' h
    have e0' : ρ' 0 = (L : Int) := h 0 (show 0 < 5 by decide)
    have e1 : ρ' 1 = i.toInt := h 1 (show 1 < 5 by decide)
    have e2 : ρ' 2 = (M 15 1).toInt := h 2 (show 2 < 5 by decide)
    have e3 : ρ' 3 = (M 17 8).toInt := h 3 (show 3 < 5 by decide)
    have e4 : ρ' 4 = v.toInt := h 4 (show 4 < 5 by decide)
    refine ⟨⟨show 1 ≤ 5 by decide, e0', fun e he => ?_, fun f hf => ?_, fun c hc => ?_, fun q hq => (by cases hq), fun j pr hj => (by cases hj), fun j r hj i => Or.inl (hR j r hj i)⟩, ⟨rfl, rfl, ⟨rfl, rfl, rfl, (show i.toInt = aev ρ' (aid 1) by rw [aev_id, e1]), trivial⟩, hst ρ' e4⟩, trivial⟩
    · have he : e ∈ [(0, ((0 : Int), (2560 : Int))), (1, (0, 2147483647)), (2, (0, 120)), (3, (0, 10)), (4, aFull)] := he
      simp only [List.mem_cons, List.not_mem_nil, or_false] at he
      rcases he with e | e | e | e | e
      · subst e
        show (0 : Int) ≤ ρ' 0 ∧ ρ' 0 ≤ 2560
        omega
      · subst e
        show (0 : Int) ≤ ρ' 1 ∧ ρ' 1 ≤ 2147483647
        omega
      · subst e
        show (0 : Int) ≤ ρ' 2 ∧ ρ' 2 ≤ 120
        omega
      · subst e
        show (0 : Int) ≤ ρ' 3 ∧ ρ' 3 ≤ 10
        omega
      · subst e
        show aFull.1 ≤ ρ' 4 ∧ ρ' 4 ≤ aFull.2
        rw [e4]
        exact aFull_of v
    · have ef := List.mem_singleton.mp hf
      subst ef
      show (5 : Int) + (-1 * ρ' 0 + (1 * ρ' 1 + 0)) ≤ 0
      omega
    · have hc : c ∈ [((15, aco 1), aid 2), ((56, aco 16), aid 2), ((17, aco 8), aid 3), ((56, aco 17), aid 3)] := hc
      simp only [List.mem_cons, List.not_mem_nil, or_false] at hc
      rcases hc with e | e | e | e
      · subst e
        dsimp only
        rw [aev_co, aev_id, e2]
        exact ⟨by decide, rfl⟩
      · subst e
        dsimp only
        rw [aev_co, aev_id, e2]
        exact ⟨by decide, k1.symm⟩
      · subst e
        dsimp only
        rw [aev_co, aev_id, e3]
        exact ⟨by decide, rfl⟩
      · subst e
        dsimp only
        rw [aev_co, aev_id, e3]
        exact ⟨by decide, k2.symm⟩
  have hag : agr 2 ρ (rx L i.toInt (M 15 1).toInt (M 17 8).toInt v.toInt) := fun k hk => by
    have : k = 0 ∨ k = 1 := by omega
    rcases this with e | e
    · subst e
      exact h0.symm
    · subst e
      exact h1.symm
  refine arunH_of (ρ0 := rx L i.toInt (M 15 1).toInt (M 17 8).toInt v.toInt) (g := 1) (M0 := M) (ms := some msX) (v := msX.map (fun m => (aev ρ m).toNat)) prs_ne hL (ds_law_of hL (aHand_of hL)) (fun r h => fin_of h) ?_ 200 _ _ _ M _ hr hS hM (aUnw.refl _ _) (show 1 ≤ 5 by decide) (agr_refl _ _) ?_
  · intro c' hc' ρ3 M3 cfr3 hS3 hM3 hU3 _ ha
    rcases ha with ha | ha
    · cases ha
    · exact hIH c' hc' ρ3 M3 cfr3 ha (bJ_kept hJ hU3) hS3 hM3
  · intro os hos ρ3 h3
    cases hos
    refine List.map_congr_left (fun m hm => ?_)
    have hw : awl 2 m = true := List.all_eq_true.mp (show msX.all (awl 2) = true by decide) m hm
    rw [awl_of (fun k hk => h3 k (show k < 5 by omega)) hw, awl_of hag hw]
theorem law_f (hL : L ≤ 2560) {cfr : List cFr} (hIH : ∀ c' ∈ cu_law, ∀ (ρ' : Nat → Int) (M' : xM) (cfr' : List cFr), alt (c'.2.2.map (fun m => (aev ρ' m).toNat)) (msO0.map (fun m => (aev ρ m).toNat)) → bJ M' → aHS xs L prs_law M' c'.2.1 ρ' c'.1 cfr' → aInv M' → aGl xs L xfin M' cfr') (hJ : bJ M) (hS : aHS xs L prs_law M kO0 ρ [(231, 487, plX, [])] cfr) (hM : aInv M) : aGl xs L xfin M cfr := by
  have f5 : (5 : Int) + (-1 * ρ 0 + (1 * ρ 1 + 0)) ≤ 0 := hS.fa (f := (.ofNat 5, [(0, .negSucc 0), (1, .ofNat 1)])) (by decide)
  have b1 := hS.bd (t := (1, (.ofNat 0, .ofNat 2555))) (by decide)
  have b1 : (0 : Int) ≤ ρ 1 := b1.1
  have e0' : ρ 0 = (L : Int) := (hS ρ (agr_refl _ _)).1.2.1
  have h1 : (M 15 1).toInt = (M 56 16).toInt := (cell_f (p := 15) (b := 1) (k := 2) hS (by decide)).trans (cell_f (p := 56) (b := 16) (k := 2) hS (by decide)).symm
  have h2 : (M 17 8).toInt = (M 56 17).toInt := (cell_f (p := 17) (b := 8) (k := 3) hS (by decide)).trans (cell_f (p := 56) (b := 17) (k := 3) hS (by decide)).symm
  obtain ⟨plc, skc, m, e, hl, hst, hnl⟩ := afrs_cons (hS ρ (agr_refl _ _)).2
  obtain ⟨v0, w0, g0, a0, hl⟩ := alocC hl
  obtain ⟨v1, w1, g1, a1, hl⟩ := alocC hl
  obtain ⟨v2, w2, g2, a2, hl⟩ := alocC hl
  obtain ⟨v3, w3, g3, a3, hl⟩ := alocC hl
  have g4 := alocN hl
  have g5 := astkN hst
  have g6 := afrs_nil hnl
  have d0 := alo1R a0
  have d1 := alo1R a1
  have d2 := alo1R a2
  obtain ⟨i, d3, di⟩ := alo1I a3
  subst d0; subst d1; subst d2; subst d3; subst g6; subst g5; subst g4; subst g3; subst g2; subst g1; subst g0
  rw [aev_id] at di
  rw [e]
  show PL xs L 231 (487, [some (.ref 999), some (.ref 0), some (.ref 56), some (.int i)], [], 102, xsh0, M) _
  have c1 : (1 : Int32).toInt = 1 := by decide
  have c2 : (2 : Int32).toInt = 2 := by decide
  have c3 : (3 : Int32).toInt = 3 := by decide
  have j1 := i32_addc (i := i) (c := 1) (by omega) (by omega) (by omega) (by omega)
  have j2 := i32_addc (i := i) (c := 2) (by omega) (by omega) (by omega) (by omega)
  have j3 := i32_addc (i := i) (c := 3) (by omega) (by omega) (by omega) (by omega)
  obtain ⟨v, M1, M2, two, hJ2, k1, k2⟩ := feed_two (xs := xs) hL hM (hS.rk rfl) hJ h1 h2 (lfe xs i) (xs (i + 3).toNatClampNeg)
  refine fa_C (by omega) (by omega) (by omega) (PL.callL rfl (Nat.le_of_ble_eq_true rfl) (two.1 _ ⟨rfl, ?_⟩))
  refine PL.go (k := 1) (s' := (517, [some (.ref 999), some (.ref 0), some (.ref 56), some (.int i)], [], 102, xsh0, M1)) rfl ?_
  refine fa_M (by omega) (by omega) (by omega) (PL.callL rfl (Nat.le_of_ble_eq_true rfl) (two.2.1 _ ⟨rfl, ?_⟩))
  show aGl xs L xfin M2 [(231, 546, [some (.ref 999), some (.ref 0), some (.ref 56), some (.int i)], [.int v])]
  exact law_end hL (ms := msO0) (ρ := ρ) rfl rE9 (fun ρ' h => ⟨(show v.toInt = aev ρ' (aid 4) by rw [aev_id, h]), trivial⟩) hIH e0' di.symm hJ2 two.2.2.2.2.1 two.2.2.2.2.2 k1 k2 (by omega) (by omega)
theorem law_r (hL : L ≤ 2560) {cfr : List cFr} (hIH : ∀ c' ∈ cu_law, ∀ (ρ' : Nat → Int) (M' : xM) (cfr' : List cFr), alt (c'.2.2.map (fun m => (aev ρ' m).toNat)) (msO1.map (fun m => (aev ρ m).toNat)) → bJ M' → aHS xs L prs_law M' c'.2.1 ρ' c'.1 cfr' → aInv M' → aGl xs L xfin M' cfr') (hJ : bJ M) (hS : aHS xs L prs_law M kO1 ρ [(231, 550, plX, [])] cfr) (hM : aInv M) : aGl xs L xfin M cfr := by
  have f5 : (5 : Int) + (-1 * ρ 0 + (1 * ρ 1 + 0)) ≤ 0 := hS.fa (f := (.ofNat 5, [(0, .negSucc 0), (1, .ofNat 1)])) (by decide)
  have b1 := hS.bd (t := (1, (.ofNat 0, .ofNat 2555))) (by decide)
  have b1 : (0 : Int) ≤ ρ 1 := b1.1
  have e0' : ρ 0 = (L : Int) := (hS ρ (agr_refl _ _)).1.2.1
  have h1 : (M 15 1).toInt = (M 56 16).toInt := (cell_f (p := 15) (b := 1) (k := 2) hS (by decide)).trans (cell_f (p := 56) (b := 16) (k := 2) hS (by decide)).symm
  have h2 : (M 17 8).toInt = (M 56 17).toInt := (cell_f (p := 17) (b := 8) (k := 3) hS (by decide)).trans (cell_f (p := 56) (b := 17) (k := 3) hS (by decide)).symm
  obtain ⟨plc, skc, m, e, hl, hst, hnl⟩ := afrs_cons (hS ρ (agr_refl _ _)).2
  obtain ⟨v0, w0, g0, a0, hl⟩ := alocC hl
  obtain ⟨v1, w1, g1, a1, hl⟩ := alocC hl
  obtain ⟨v2, w2, g2, a2, hl⟩ := alocC hl
  obtain ⟨v3, w3, g3, a3, hl⟩ := alocC hl
  have g4 := alocN hl
  have g5 := astkN hst
  have g6 := afrs_nil hnl
  have d0 := alo1R a0
  have d1 := alo1R a1
  have d2 := alo1R a2
  obtain ⟨i, d3, di⟩ := alo1I a3
  subst d0; subst d1; subst d2; subst d3; subst g6; subst g5; subst g4; subst g3; subst g2; subst g1; subst g0
  rw [aev_id] at di
  rw [e]
  show PL xs L 231 (550, [some (.ref 999), some (.ref 0), some (.ref 56), some (.int i)], [], 102, xsh0, M) _
  obtain ⟨v, M1, M2, two, hJ2, k1, k2⟩ := rule_two (xs := xs) hL hM (hS.rk rfl) hJ h1 h2
  refine PL.go (k := 1) (s' := (551, [some (.ref 999), some (.ref 0), some (.ref 56), some (.int i)], [.ref 0], 102, xsh0, M)) rfl (PL.callL rfl (Nat.le_of_ble_eq_true rfl) (two.1 _ ⟨rfl, ?_⟩))
  refine PL.go (k := 1) (s' := (555, [some (.ref 999), some (.ref 0), some (.ref 56), some (.int i)], [.ref 56, .int v], 102, xsh0, M1)) rfl (PL.callL rfl (Nat.le_of_ble_eq_true rfl) (two.2.1 _ ⟨rfl, ?_⟩))
  show aGl xs L xfin M2 [(231, 558, [some (.ref 999), some (.ref 0), some (.ref 56), some (.int i)], [.int v, .int v])]
  exact law_end hL (ms := msO1) (ρ := ρ) rfl rE10 (fun ρ' h => ⟨(show v.toInt = aev ρ' (aid 4) by rw [aev_id, h]), (show v.toInt = aev ρ' (aid 4) by rw [aev_id, h]), trivial⟩) hIH e0' di.symm hJ2 two.2.2.2.2.1 two.2.2.2.2.2 k1 k2 (by omega) (by omega)
end AZL
theorem law_true (xs : Nat → Int32) (L : Nat) (hL : L ≤ 2560) : ∃ n r, xrun xs L n 231 (0, xent 231 [.ref 999], [], 0, [], fun _ _ => 0) = some r ∧ r.1 = some (.int 1) ∧ r.2.1 ≤ 102 ∧ xsl r.2.2.1 ≤ 2663 := by
  have h := acksJ_of (J := bJ) (Q := xfin) prs_ne hL (ds_law_of hL (aHand_of hL)) (fun M M' hJ hU => bJ_kept hJ hU) (fun M r h => fin_of h) ck_law (fun c hc ρ M cfr hIH hJ hS hM => by
    rcases List.mem_cons.mp hc with ec | hc
    · subst ec
      exact law_f hL (fun c' hc' => hIH c' (List.mem_append_left _ hc')) hJ hS hM
    · have ec := List.mem_singleton.mp hc
      subst ec
      exact law_r hL (fun c' hc' => hIH c' (List.mem_append_left _ hc')) hJ hS hM) _ (List.mem_append_left _ (List.mem_cons_self ..)) (rh0 L) xM0 _ bJ_0 (law_hS xs L hL) aInv_0
  have h2 : PL xs L 231 (18, [some (.ref 999), some (.ref 0), some (.ref 56), some (.int 0)], [], 102, xsh0, xM0) xfin := h
  obtain ⟨n, r, h1, h3, h4, h5⟩ := law_begin xs L h2
  exact ⟨n, r, h1, h3, h4, h5⟩
