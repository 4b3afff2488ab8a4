/-! THE LAW ENDS WITH 1 -/
def xfin (r : xZ) : Prop := r.1 = some (.int 1) ∧ r.2.1 ≤ 102 ∧ xsl r.2.2.1 ≤ 2663
set_option maxRecDepth 100000 in
theorem law_begin (xs : Nat → Int32) (L : Nat) (k : PL xs L 231 (18, [some (.ref 999), some (.ref 0), some (.ref 56), some (.int 0)], [], 102, xsh0, xM0) xfin) : PL xs L 231 (0, xent 231 [.ref 999], [], 0, [], fun _ _ => 0) xfin := by
  refine PL.go (k := 2) (s' := (4, [some (.ref 999), none, none, none], [.ref 0, .ref 0], 1, [(Sum.inr (10, xini.getD 10 []) : xSh)], va_up (fun _ _ => 0) 0 (fun _ => 0))) rfl ?_
  refine PL.call0 (al := true) (n1 := 3000) (r := (none, 56, xsh1, xM1)) (z := 102) (as := [.ref 0]) (pc := 7) (pl := [some (.ref 999), none, none, none]) (st := [.ref 0]) (nz := 1) (sh := [(Sum.inr (10, xini.getD 10 []) : xSh)]) (M := va_up (fun _ _ => 0) 0 (fun _ => 0)) rfl (Nat.le_of_ble_eq_true rfl) xA1_eq rfl ?_
  show PL xs L 231 (7, [some (.ref 999), none, none, none], [.ref 0], 56, xsh1, xM1) _
  refine PL.go (k := 3) (s' := (12, [some (.ref 999), some (.ref 0), none, none], [.ref 56, .ref 56], 57, xsh1 ++ [(Sum.inr (11, xini.getD 11 []) : xSh)], va_up xM1 56 (fun _ => 0))) rfl ?_
  refine PL.call0 (al := true) (n1 := 3000) (r := (none, 102, xsh0, xM0)) (z := 153) (as := [.ref 56]) (pc := 15) (pl := [some (.ref 999), some (.ref 0), none, none]) (st := [.ref 56]) (nz := 57) (sh := xsh1 ++ [(Sum.inr (11, xini.getD 11 []) : xSh)]) (M := va_up xM1 56 (fun _ => 0)) rfl (Nat.le_of_ble_eq_true rfl) xA2_eq rfl ?_
  show PL xs L 231 (15, [some (.ref 999), some (.ref 0), none, none], [.ref 56], 102, xsh0, xM0) _
  refine PL.go (k := 3) (s' := (18, [some (.ref 999), some (.ref 0), some (.ref 56), some (.int 0)], [], 102, xsh0, xM0)) rfl ?_
  exact k
def rh0 (L : Nat) : Nat → Int := fun k => if k = 0 then (L : Int) else if k = 4 then 7 else if k = 5 then 5 else 0
set_option maxRecDepth 100000 in
theorem prs_0 : prs_law.all (fun pr => (match xsh0[pr.1]?, xsh0[pr.2]? with
  | some d, some d' => Nat.beq (xsl1 d) (xsl1 d') && (List.range (xsl1 d)).all (fun i => decide (xMt pr.1 i = xMt pr.2 i))
  | _, _ => false)) = true := by decide +kernel
theorem prs_eq {pr : Nat × Nat} (h : pr ∈ prs_law) (i : Nat) : xM0 pr.1 i = xM0 pr.2 i := by
  have h1 := List.all_eq_true.mp prs_0 pr h
  split at h1
  · rename_i d d' e1 e2
    rw [Bool.and_eq_true] at h1
    have hl : xsl1 d = xsl1 d' := Nat.eq_of_beq_eq_true h1.1
    by_cases hi : i < xsl1 d
    · rw [xM0_in e1 hi, xM0_in e2 (by omega)]
      exact of_decide_eq_true (List.all_eq_true.mp h1.2 i (List.mem_range.mpr hi))
    · rw [xzo_0 pr.1 i (fun d2 h2 => by rw [e1] at h2; cases h2; omega), xzo_0 pr.2 i (fun d2 h2 => by rw [e2] at h2; cases h2; omega)]
  · cases h1
theorem prs_ne : ∀ pr ∈ prs_law, pr.1 ≠ pr.2 := by decide
theorem law_hS (xs : Nat → Int32) (L : Nat) (hL : L ≤ 2560) : aHS xs L prs_law xM0 (6, [(0, (.ofNat 0, .ofNat 2560)), (1, (.ofNat 0, .ofNat 2147483647)), (2, (.ofNat 0, .ofNat 24)), (3, (.ofNat 0, .ofNat 30)), (4, (.negSucc 2147483647, .ofNat 2147483647)), (5, (.negSucc 2147483647, .ofNat 2147483647))], [], [((1, (.ofNat 3, [])), (.ofNat 0, [(2, .ofNat 1)])), ((56, (.ofNat 0, [])), (.ofNat 0, [(2, .ofNat 1)])), ((5, (.ofNat 9, [])), (.ofNat 0, [(3, .ofNat 1)])), ((56, (.ofNat 6, [])), (.ofNat 0, [(3, .ofNat 1)])), ((1, (.ofNat 4, [])), (.ofNat 0, [(4, .ofNat 1)])), ((61, (.ofNat 0, [])), (.ofNat 0, [(4, .ofNat 1)])), ((1, (.ofNat 5, [])), (.ofNat 0, [(5, .ofNat 1)])), ((61, (.ofNat 1, [])), (.ofNat 0, [(5, .ofNat 1)]))], [], [], []) (rh0 L) [(231, 18, [some (.inr (.inr (.inl 999))), some (.inr (.inr (.inl 0))), some (.inr (.inr (.inl 56))), some (.inl (.ofNat 0, [(1, .ofNat 1)]))], [])] [(231, 18, [some (.ref 999), some (.ref 0), some (.ref 56), some (.int 0)], [])] := by
  intro ρ' h
  have e0 : ρ' 0 = (L : Int) := h 0 (Nat.zero_lt_succ 5)
  have e1 : ρ' 1 = 0 := h 1 (by decide)
  have e2 : ρ' 2 = 0 := h 2 (by decide)
  have e3 : ρ' 3 = 0 := h 3 (by decide)
  have e4 : ρ' 4 = 7 := h 4 (by decide)
  have e5 : ρ' 5 = 5 := h 5 (by decide)
  refine ⟨⟨Nat.zero_lt_succ 5, e0, ?_, fun f hf => (by cases hf), ?_, fun q hq => (by cases hq), fun j pr hj i => Or.inl (prs_eq (List.mem_of_getElem? hj) i), fun j r hj i => Or.inl (aRk_0 j r hj i)⟩, ⟨rfl, rfl, ⟨rfl, rfl, rfl, ?_, trivial⟩, trivial⟩, trivial⟩
  · refine aok_cons (aok_cons (aok_cons (aok_cons (aok_cons (aok_cons (fun t ht => (by cases ht)) ?_ ?_) ?_ ?_) ?_ ?_) ?_ ?_) ?_ ?_) ?_ ?_
    · show (-2147483648 : Int) ≤ ρ' 5; omega
    · show ρ' 5 ≤ (2147483647 : Int); omega
    · show (-2147483648 : Int) ≤ ρ' 4; omega
    · show ρ' 4 ≤ (2147483647 : Int); omega
    · show (0 : Int) ≤ ρ' 3; omega
    · show ρ' 3 ≤ (30 : Int); omega
    · show (0 : Int) ≤ ρ' 2; omega
    · show ρ' 2 ≤ (24 : Int); omega
    · show (0 : Int) ≤ ρ' 1; omega
    · show ρ' 1 ≤ (2147483647 : Int); omega
    · show (0 : Int) ≤ ρ' 0; omega
    · show ρ' 0 ≤ (2560 : Int); omega
  · refine acc_cons (acc_cons (acc_cons (acc_cons (acc_cons (acc_cons (acc_cons (acc_cons (fun q hq => (by cases hq)) (by show (0 : Int) ≤ 1 + 0; decide) ?_) (by show (0 : Int) ≤ 5 + 0; decide) ?_) (by show (0 : Int) ≤ 0 + 0; decide) ?_) (by show (0 : Int) ≤ 4 + 0; decide) ?_) (by show (0 : Int) ≤ 6 + 0; decide) ?_) (by show (0 : Int) ≤ 9 + 0; decide) ?_) (by show (0 : Int) ≤ 0 + 0; decide) ?_) (by show (0 : Int) ≤ 3 + 0; decide) ?_
    · show (xM0 61 1).toInt = 0 + (1 * ρ' 5 + 0)
      rw [xM0_in (p := 61) (i := 1) rfl (by decide), e5]
      decide
    · show (xM0 1 5).toInt = 0 + (1 * ρ' 5 + 0)
      rw [xM0_in (p := 1) (i := 5) rfl (by decide), e5]
      decide
    · show (xM0 61 0).toInt = 0 + (1 * ρ' 4 + 0)
      rw [xM0_in (p := 61) (i := 0) rfl (by decide), e4]
      decide
    · show (xM0 1 4).toInt = 0 + (1 * ρ' 4 + 0)
      rw [xM0_in (p := 1) (i := 4) rfl (by decide), e4]
      decide
    · show (xM0 56 6).toInt = 0 + (1 * ρ' 3 + 0)
      rw [xM0_in (p := 56) (i := 6) rfl (by decide), e3]
      decide
    · show (xM0 5 9).toInt = 0 + (1 * ρ' 3 + 0)
      rw [xM0_in (p := 5) (i := 9) rfl (by decide), e3]
      decide
    · show (xM0 56 0).toInt = 0 + (1 * ρ' 2 + 0)
      rw [xM0_in (p := 56) (i := 0) rfl (by decide), e2]
      decide
    · show (xM0 1 3).toInt = 0 + (1 * ρ' 2 + 0)
      rw [xM0_in (p := 1) (i := 3) rfl (by decide), e2]
      decide
  · show (0 : Int32).toInt = 0 + (1 * ρ' 1 + 0)
    rw [e1]
    decide
theorem fin_of {w : aW} {M : xM} {r : xZ} (hr : aPost (some (.ofNat 1, .ofNat 1)) w M r) : xfin r := by
  obtain ⟨rv, r2⟩ := r
  obtain ⟨M', er, -, -, hres, -⟩ := hr
  have er : r2 = (102, xsh0, M') := er
  subst er
  match rv, hres with
  | some (.int x), hres =>
    have hx : (1 : Int) ≤ x.toInt ∧ x.toInt ≤ 1 := hres
    have hx1 : x = 1 := Int32.toInt_inj.mp (by show x.toInt = 1; omega)
    subst hx1
    exact ⟨rfl, Nat.le_refl _, Nat.le_of_eq xsl_sh0⟩
theorem crJ_kept {M M' : xM} (hJ : crJ M) (hU : aUnw w_law M M') : crJ M' := fun i hi => by
  rw [hU 56 6 rfl] at hi
  rw [hU 64 i rfl, hU 62 i rfl, hU 9 i rfl, hU 65 i rfl, hU 56 0 rfl]
  exact hJ i hi
theorem crJ_0 : crJ xM0 := fun i hi => by
  rw [xM0_56 (by decide)] at hi
  have : (xMt 56 6).toInt = 0 := by decide
  omega
theorem aIvF_lt {p b : Nat} {q : Int × Int} (h : aIvF p b = some q) : p < 102 := by
  unfold aIvF at h
  split at h
  · rename_i t e
    have hm := List.mem_of_find?_eq_some e
    have he := List.find?_some e
    rw [Bool.and_eq_true] at he
    have e1 : t.1.1 = p := Nat.eq_of_beq_eq_true he.1
    have h1 : Nat.ble (t.1.1 + 1) 102 = true := List.all_eq_true.mp (show aIvFl.all (fun t => Nat.ble (t.1.1 + 1) 102) = true by decide) t hm
    have := Nat.le_of_ble_eq_true h1
    omega
  · cases h
theorem hat_rk {G M : xM} (h : aRk M) : aRk (hat G M) := aRk_fr h (fun p i hp => by
  obtain ⟨r, hr, e⟩ := List.any_eq_true.mp hp
  have h1 := List.all_eq_true.mp (show aRws.all (fun r => Nat.ble (r.1 + 1) 102 && Nat.ble (r.2.2.1 + 1) 102) = true by decide) r hr
  rw [Bool.and_eq_true] at h1
  have a1 := Nat.le_of_ble_eq_true h1.1
  have a2 := Nat.le_of_ble_eq_true h1.2
  rw [Bool.or_eq_true] at e
  rcases e with e | e
  · have := Nat.eq_of_beq_eq_true e
    rw [hat_lo (by omega)]
  · have := Nat.eq_of_beq_eq_true e
    rw [hat_lo (by omega)])
theorem hat_inv {G M : xM} (h : aInv M) : aInv (hat G M) := by
  refine ⟨aIvOk_fr h.1 (fun p i => ?_), aX_fr h.2 (fun p i hp => ?_)⟩
  · by_cases c : p < 5000
    · exact Or.inl (by rw [hat_lo c])
    · exact Or.inr ⟨fun q hq => absurd (aIvA_lt hq) (by omega), fun q hq => absurd (aIvF_lt hq) (by omega)⟩
  · rw [hat_lo]
    rw [Bool.or_eq_true] at hp
    rcases hp with hp | hp
    · obtain ⟨q, hq, e⟩ := List.any_eq_true.mp hp
      have := Nat.eq_of_beq_eq_true e
      simp only [List.mem_cons, List.not_mem_nil, or_false] at hq
      omega
    · obtain ⟨q, hq, e⟩ := List.any_eq_true.mp hp
      rw [Bool.and_eq_true] at e
      have := Nat.eq_of_beq_eq_true e.1
      simp only [List.mem_cons, List.not_mem_nil, or_false] at hq
      rcases hq with rfl | rfl | rfl | rfl <;> (dsimp only at this; omega)
theorem law_h0 {xs : Nat → Int32} {L : Nat} (hL : L ≤ 2560) {ρ : Nat → Int} {M : xM} {cfr : List cFr} (hIH : ∀ c' ∈ cu_law, ∀ (ρ' : Nat → Int) (M' : xM) (cfr' : List cFr), alt (c'.2.2.map (fun m => (aev ρ' m).toNat)) (ms0.map (fun m => (aev ρ m).toNat)) → crJ M' → aHS xs L prs_law M' c'.2.1 ρ' c'.1 cfr' → aInv M' → aGl xs L xfin M' cfr') (hJ : crJ M) (hS : aHS xs L prs_law M kH0 ρ [(231, 437, pl0, as0.reverse ++ [.inr (.inr (.inl 0))])] cfr) (hM : aInv M) : aGl xs L xfin M cfr := by
  refine law_pair (M0 := M) (w := w_law) (KB := kB0) (tail := tl0) (C := kH0.2.2.2.1) (ms := ms0) (zc := 110) (zm := 166) prs_ne hL (ds_law_of hL (aHand_of hL)) (fun r h => fin_of h) rfl rfl (by decide) rfl rfl (by decide) rA0 rB0 (by decide) (by decide) (by decide) (fun c' hc' ρ' M' cfr' ha hS' hM' hU' => hIH c' hc' ρ' M' cfr' ha (crJ_kept hJ hU') hS' hM') hS (fun vs hvs => ?_)
  · skip
    obtain ⟨v1, vs1, ev, h1, hvs1⟩ := astkC hvs
    obtain ⟨x1, ex1, -⟩ := avalI h1
    have en := astkN hvs1
    subst ex1; subst en; subst ev
    obtain ⟨v, h2⟩ := cred_two (xs := xs) hL hM (hS.rk rfl) hJ (fun i => hS.pr rfl 0 (2, 58) rfl i) (fun i => hS.pr rfl 1 (3, 59) rfl i) (fun i => hS.pr rfl 2 (4, 60) rfl i) (fun i => hS.pr rfl 3 (6, 62) rfl i) (fun i => hS.pr rfl 4 (8, 64) rfl i) ((cell_f (k := 4) hS (by decide)).trans (cell_f (k := 4) hS (by decide)).symm) ((cell_f (k := 5) hS (by decide)).trans (cell_f (k := 5) hS (by decide)).symm) ((cell_f (k := 2) hS (by decide)).trans (cell_f (k := 2) hS (by decide)).symm) ((cell_f (k := 3) hS (by decide)).trans (cell_f (k := 3) hS (by decide)).symm) x1
    exact ⟨v, M, M, h2, hS.pr rfl, fun ρ' h => (hS ρ' h).1.2.2.2.2.1, aUnw.refl _ _⟩
theorem law_s0 {xs : Nat → Int32} {L : Nat} (hL : L ≤ 2560) {ρ : Nat → Int} {M : xM} {cfr : List cFr} (hIH : ∀ c' ∈ cu_law, ∀ (ρ' : Nat → Int) (M' : xM) (cfr' : List cFr), alt (c'.2.2.map (fun m => (aev ρ' m).toNat)) (msS0.map (fun m => (aev ρ m).toNat)) → crJ M' → aHS xs L prs_law M' c'.2.1 ρ' c'.1 cfr' → aInv M' → aGl xs L xfin M' cfr') (hJ : crJ M) (hS : aHS xs L prs_law M kS0 ρ fS0 cfr) (hM : aInv M) : aGl xs L xfin M cfr := by
  have f5 : (5 : Int) + (-1 * ρ 0 + (1 * ρ 1 + 0)) ≤ 0 := hS.fa (f := (.ofNat 5, [(0, .negSucc 0), (1, .ofNat 1)])) (by decide)
  have b1 := hS.bd (t := (1, (.ofNat 0, .ofNat 2555))) (by decide)
  have b1 : (0 : Int) ≤ ρ 1 := b1.1
  have hO0 := cell_f (p := 56) (b := 0) (k := 2) hS (by decide)
  have hO6 := cell_f (p := 56) (b := 6) (k := 3) hS (by decide)
  refine arunH_of (ms := none) (v := []) (g := 12) (ρ0 := ρ) (M0 := M) prs_ne hL (dsS0_of hL (aHand_of hL)) (fun r h => aPost_no h) ?_ 1748 _ _ ρ M cfr rS0 hS hM (aUnw.refl _ _) (Nat.le_refl _) (agr_refl _ _) (fun os hos => by cases hos)
  intro c hc ρ' M' cfr' hS' hM' hU hag _
  have ec := List.mem_singleton.mp hc
  subst ec
  have u0 : ρ' 0 = ρ 0 := hag 0 (by decide)
  have u1 : ρ' 1 = ρ 1 := hag 1 (by decide)
  have u2 : ρ' 2 = ρ 2 := hag 2 (by decide)
  have g2 : (0 : Int) + (1 * ρ' 2 + (-1 * ρ' 12 + 0)) ≤ 0 := hS'.fa (f := (.ofNat 0, [(2, .ofNat 1), (12, .negSucc 0)])) (by decide)
  have c0 := cell_f (p := 56) (b := 0) (k := 12) hS' (by decide)
  have hJ' : crJ M' := fun i hi => by
    rw [hU 56 6 rfl] at hi
    obtain ⟨j1, j2⟩ := hJ i hi
    rw [hU 64 i rfl, hU 62 i rfl, hU 9 i rfl, hU 65 i rfl]
    exact ⟨by omega, fun h4 => ⟨(j2 h4).1, by have := (j2 h4).2; omega⟩⟩
  have hT : aHS xs L prs_law M' kT0_0 ρ' cS0_0.1 cfr' := hS'
  obtain ⟨ρc, hSc, hρc⟩ := aconv sgS0 qS0_0 hT
  have q0 : ρc 0 = ρ' 0 := (hρc 0 (aid 0) rfl).trans aev_id
  have q1 : ρc 1 = 5 + ρ' 1 := (hρc 1 (5, [(1, 1)]) rfl).trans aev_s
  refine hIH _ (List.mem_cons_self ..) ρc M' cfr' (Or.inl ?_) hJ' hSc hM'
  show ((0 : Int) + (1 * ρc 0 + (-1 * ρc 1 + 0))).toNat < ((0 : Int) + (1 * ρ 0 + (-1 * ρ 1 + 0))).toNat
  omega
theorem law_s1 {xs : Nat → Int32} {L : Nat} (hL : L ≤ 2560) {ρ : Nat → Int} {M : xM} {cfr : List cFr} (hIH : ∀ c' ∈ cu_law, ∀ (ρ' : Nat → Int) (M' : xM) (cfr' : List cFr), alt (c'.2.2.map (fun m => (aev ρ' m).toNat)) (msS1.map (fun m => (aev ρ m).toNat)) → crJ M' → aHS xs L prs_law M' c'.2.1 ρ' c'.1 cfr' → aInv M' → aGl xs L xfin M' cfr') (hJ : crJ M) (hS : aHS xs L prs_law M kS1 ρ fS1 cfr) (hM : aInv M) : aGl xs L xfin M cfr := by
  have f5 : (5 : Int) + (-1 * ρ 0 + (1 * ρ 1 + 0)) ≤ 0 := hS.fa (f := (.ofNat 5, [(0, .negSucc 0), (1, .ofNat 1)])) (by decide)
  have b1 := hS.bd (t := (1, (.ofNat 0, .ofNat 2555))) (by decide)
  have b1 : (0 : Int) ≤ ρ 1 := b1.1
  have hO0 := cell_f (p := 56) (b := 0) (k := 2) hS (by decide)
  have hO6 := cell_f (p := 56) (b := 6) (k := 3) hS (by decide)
  obtain ⟨plc, skc, m, e, hl, hst, hnl⟩ := afrs_cons (hS ρ (agr_refl _ _)).2
  have e3 := afrs_nil hnl
  subst e3
  let G : xM := fun p => if p = 5000 then M 9 else if p = 5001 then M 65 else if p = 5002 then M 62 else M 64
  have key : aGl xs L xfin (hat G M) cfr := by
    have hSh : aHS xs L prsS1 (hat G M) kS1 ρ fS1 cfr := by
      intro ρ' h
      obtain ⟨⟨k1, k2, k3, k4, k5, k6, k7, k8⟩, kf⟩ := hS ρ' h
      refine ⟨⟨k1, k2, k3, k4, fun q hq => ?_, k6, fun t pr ht i => Or.inl ?_, fun t r ht i => Or.inl (hat_rk (hS.rk rfl) t r ht i)⟩, kf⟩
      · have hq5 : Nat.ble (q.1.1 + 1) 5000 = true := (List.all_eq_true.mp (show kS1.2.2.2.1.all (fun q => Nat.ble (q.1.1 + 1) 5000) = true by decide) q hq)
        rw [hat_lo (Nat.le_of_ble_eq_true hq5)]
        exact k5 q hq
      · match t, ht with
        | 0, ht => cases ht; rw [hat_lo (by decide), hat_lo (by decide)]; exact hS.pr rfl 0 (2, 58) rfl i
        | 1, ht => cases ht; rw [hat_lo (by decide), hat_lo (by decide)]; exact hS.pr rfl 1 (3, 59) rfl i
        | 2, ht => cases ht; rw [hat_lo (by decide), hat_lo (by decide)]; exact hS.pr rfl 2 (4, 60) rfl i
        | 3, ht => cases ht; rw [hat_lo (by decide), hat_lo (by decide)]; exact hS.pr rfl 3 (6, 62) rfl i
        | 4, ht => cases ht; rw [hat_lo (by decide), hat_lo (by decide)]; exact hS.pr rfl 4 (8, 64) rfl i
        | 5, ht => cases ht; rw [hat_lo (by decide), hat_hi (by decide)]; rfl
        | 6, ht => cases ht; rw [hat_lo (by decide), hat_hi (by decide)]; rfl
        | 7, ht => cases ht; rw [hat_lo (by decide), hat_hi (by decide)]; rfl
        | 8, ht => cases ht; rw [hat_lo (by decide), hat_hi (by decide)]; rfl
        | t + 9, ht => cases ht
    refine arunH_of (ms := none) (v := []) (g := 12) (ρ0 := ρ) (M0 := hat G M) (show ∀ pr ∈ prsS1, pr.1 ≠ pr.2 by decide) hL (dsS1_of hL (aHand_of hL)) (fun r h => aPost_no h) ?_ 8211 _ _ ρ (hat G M) cfr rS1 hSh (hat_inv hM) (aUnw.refl _ _) (Nat.le_refl _) (agr_refl _ _) (fun os hos => by cases hos)
    intro c hc ρ' M' cfr' hS' hM' hU hag _
    have u0 : ρ' 0 = ρ 0 := hag 0 (by decide)
    have u1 : ρ' 1 = ρ 1 := hag 1 (by decide)
    have u2 : ρ' 2 = ρ 2 := hag 2 (by decide)
    have u3 : ρ' 3 = ρ 3 := hag 3 (by decide)
    have row : ∀ (t p gp : Nat), prsS1[t]? = some (p, gp) → (∀ i, aWin wS1 gp i = false) → 5000 ≤ gp → ∀ i : Nat, (∀ d ∈ c.2.1.2.2.2.2.2.1, d.1 = t → aev ρ' d.2 ≠ (i : Int)) → M' p i = G gp i := fun t p gp ht hw hg i hd => by
      rcases (hS' ρ' (agr_refl _ _)).1.2.2.2.2.2.2.1 t (p, gp) ht i with h | ⟨d, h1, h2, h3⟩
      · rw [h, hU gp i (hw i), hat_hi hg]
      · exact absurd h3 (hd d h1 h2)
    have hdrop : ∀ {K : aKn}, (∀ d ∈ c.2.1.2.2.2.2.2.1, 5 ≤ d.1) → K = (c.2.1.1, c.2.1.2.1, c.2.1.2.2.1, c.2.1.2.2.2.1, c.2.1.2.2.2.2.1, [], c.2.1.2.2.2.2.2.2) → aHS xs L prs_law M' K ρ' c.1 cfr' := fun {K} hD hK ρ3 h3 => by
      subst hK
      obtain ⟨⟨k1, k2, k3, k4, k5, k6, k7, k8⟩, kf⟩ := hS' ρ3 h3
      refine ⟨⟨k1, k2, k3, k4, k5, k6, fun t pr ht i => ?_, k8⟩, kf⟩
      have ht5 : t < 5 := (List.getElem?_eq_some_iff.mp ht).1
      have ht' : prsS1[t]? = some pr := by
        rw [show prsS1 = prs_law ++ prsS1.drop 5 from rfl, List.getElem?_append_left ht5]
        exact ht
      rcases k7 t pr ht' i with h | ⟨d, h1, h2, h3⟩
      · exact Or.inl h
      · exact absurd (hD d h1) (by omega)
    simp only [List.mem_cons, List.not_mem_nil, or_false] at hc
    rcases hc with ec | ec | ec | ec | ec
    · subst ec
      have c0 := cell_f (p := 56) (b := 0) (k := 12) hS' (by decide)
      have c6 := cell_f (p := 56) (b := 6) (k := 13) hS' (by decide)
      have g1 : (0 : Int) + (-1 * ρ' 2 + (1 * ρ' 12 + 0)) ≤ 0 := hS'.fa (f := (.ofNat 0, [(2, .negSucc 0), (12, .ofNat 1)])) (by decide)
      have g2 : (0 : Int) + (1 * ρ' 2 + (-1 * ρ' 12 + 0)) ≤ 0 := hS'.fa (f := (.ofNat 0, [(2, .ofNat 1), (12, .negSucc 0)])) (by decide)
      have g3 : (0 : Int) + (-1 * ρ' 3 + (1 * ρ' 13 + 0)) ≤ 0 := hS'.fa (f := (.ofNat 0, [(3, .negSucc 0), (13, .ofNat 1)])) (by decide)
      have g4 : (0 : Int) + (1 * ρ' 3 + (-1 * ρ' 13 + 0)) ≤ 0 := hS'.fa (f := (.ofNat 0, [(3, .ofNat 1), (13, .negSucc 0)])) (by decide)
      have hJ' : crJ M' := fun i hi => by
        obtain ⟨j1, j2⟩ := hJ i (by omega)
        have r9 := row 5 9 5000 rfl (fun i => rfl) (by decide) i (fun d hd => by cases hd)
        have r65 := row 6 65 5001 rfl (fun i => rfl) (by decide) i (fun d hd => by cases hd)
        have r62 := row 7 62 5002 rfl (fun i => rfl) (by decide) i (fun d hd => by cases hd)
        have r64 := row 8 64 5003 rfl (fun i => rfl) (by decide) i (fun d hd => by cases hd)
        rw [r64, r62, r9, r65]
        exact ⟨show (M 64 i).toInt < _ by omega, fun h4 => ⟨(j2 h4).1, show (M 65 i).toInt < _ by have := (j2 h4).2; omega⟩⟩
      have hT := hdrop (K := kT1_0) (fun d hd => by cases hd) rfl
      obtain ⟨ρc, hSc, hρc⟩ := aconv sgS1 qS1_0 hT
      have q0 : ρc 0 = ρ' 0 := (hρc 0 (aid 0) rfl).trans aev_id
      have q1 : ρc 1 = 5 + ρ' 1 := (hρc 1 (5, [(1, 1)]) rfl).trans aev_s
      refine hIH _ (List.mem_cons_self ..) ρc M' cfr' (Or.inl ?_) hJ' hSc hM'
      show ((0 : Int) + (1 * ρc 0 + (-1 * ρc 1 + 0))).toNat < ((0 : Int) + (1 * ρ 0 + (-1 * ρ 1 + 0))).toNat
      omega
    · subst ec
      have c0 := cell_f (p := 56) (b := 0) (k := 12) hS' (by decide)
      have c6 := cell_f (p := 56) (b := 6) (k := 13) hS' (by decide)
      have g1 : (0 : Int) + (-1 * ρ' 2 + (1 * ρ' 12 + 0)) ≤ 0 := hS'.fa (f := (.ofNat 0, [(2, .negSucc 0), (12, .ofNat 1)])) (by decide)
      have g2 : (0 : Int) + (1 * ρ' 2 + (-1 * ρ' 12 + 0)) ≤ 0 := hS'.fa (f := (.ofNat 0, [(2, .ofNat 1), (12, .negSucc 0)])) (by decide)
      have g3 : (-1 : Int) + (-1 * ρ' 3 + (1 * ρ' 13 + 0)) ≤ 0 := hS'.fa (f := (.negSucc 0, [(3, .negSucc 0), (13, .ofNat 1)])) (by decide)
      have g4 : (1 : Int) + (1 * ρ' 3 + (-1 * ρ' 13 + 0)) ≤ 0 := hS'.fa (f := (.ofNat 1, [(3, .ofNat 1), (13, .negSucc 0)])) (by decide)
      have gm : (1 : Int) + (-1 * ρ' 2 + (1 * ρ' 10 + 0)) ≤ 0 := hS'.fa (f := (.ofNat 1, [(2, .negSucc 0), (10, .ofNat 1)])) (by decide)
      have c64 := cell_i (p := 64) (i := 3) (k := 10) hS' (by decide)
      have h30 : (0 : Int) ≤ ρ' 3 := by
        have := hM.1.2 56 6 (0, 30) rfl
        dsimp only at this
        omega
      have hD5 : ∀ d ∈ cS1_1.2.1.2.2.2.2.2.1, 5 ≤ d.1 ∧ d.2 = aid 3 := by decide
      have hJ' : crJ M' := fun i hi => by
        by_cases hin : (i : Int) = ρ' 3
        · have ein : i = (ρ' 3).toNat := by omega
          subst ein
          refine ⟨by omega, fun h4 => ?_⟩
          have c62 := (hS'.ce (q := ((62, aid 3), (.ofNat 3, []))) (by decide)).2
          dsimp only at c62
          rw [aev_id, aev_nil rfl] at c62
          exact absurd (c62.symm.trans h4) (by decide)
        · obtain ⟨j1, j2⟩ := hJ i (by omega)
          have hne : ∀ (t : Nat), ∀ d ∈ cS1_1.2.1.2.2.2.2.2.1, d.1 = t → aev ρ' d.2 ≠ (i : Int) := fun t d hd _ => by
            rw [(hD5 d hd).2, aev_id]
            exact fun z => hin z.symm
          have r9 := row 5 9 5000 rfl (fun i => rfl) (by decide) i (hne _)
          have r65 := row 6 65 5001 rfl (fun i => rfl) (by decide) i (hne _)
          have r62 := row 7 62 5002 rfl (fun i => rfl) (by decide) i (hne _)
          have r64 := row 8 64 5003 rfl (fun i => rfl) (by decide) i (hne _)
          rw [r64, r62, r9, r65]
          exact ⟨show (M 64 i).toInt < _ by omega, fun h4 => ⟨(j2 h4).1, show (M 65 i).toInt < _ by have := (j2 h4).2; omega⟩⟩
      have hT := hdrop (K := kT1_1) (fun d hd => (hD5 d hd).1) rfl
      obtain ⟨ρc, hSc, hρc⟩ := aconv sgS1 qS1_1 hT
      have q0 : ρc 0 = ρ' 0 := (hρc 0 (aid 0) rfl).trans aev_id
      have q1 : ρc 1 = 5 + ρ' 1 := (hρc 1 (5, [(1, 1)]) rfl).trans aev_s
      refine hIH _ (List.mem_cons_self ..) ρc M' cfr' (Or.inl ?_) hJ' hSc hM'
      show ((0 : Int) + (1 * ρc 0 + (-1 * ρc 1 + 0))).toNat < ((0 : Int) + (1 * ρ 0 + (-1 * ρ 1 + 0))).toNat
      omega
    · subst ec
      have c0 := cell_f (p := 56) (b := 0) (k := 12) hS' (by decide)
      have c6 := cell_f (p := 56) (b := 6) (k := 13) hS' (by decide)
      have g1 : (0 : Int) + (-1 * ρ' 2 + (1 * ρ' 12 + 0)) ≤ 0 := hS'.fa (f := (.ofNat 0, [(2, .negSucc 0), (12, .ofNat 1)])) (by decide)
      have g2 : (0 : Int) + (1 * ρ' 2 + (-1 * ρ' 12 + 0)) ≤ 0 := hS'.fa (f := (.ofNat 0, [(2, .ofNat 1), (12, .negSucc 0)])) (by decide)
      have g3 : (-1 : Int) + (-1 * ρ' 3 + (1 * ρ' 13 + 0)) ≤ 0 := hS'.fa (f := (.negSucc 0, [(3, .negSucc 0), (13, .ofNat 1)])) (by decide)
      have g4 : (1 : Int) + (1 * ρ' 3 + (-1 * ρ' 13 + 0)) ≤ 0 := hS'.fa (f := (.ofNat 1, [(3, .ofNat 1), (13, .negSucc 0)])) (by decide)
      have gm : (1 : Int) + (-1 * ρ' 2 + (1 * ρ' 10 + 0)) ≤ 0 := hS'.fa (f := (.ofNat 1, [(2, .negSucc 0), (10, .ofNat 1)])) (by decide)
      have c64 := cell_i (p := 64) (i := 3) (k := 10) hS' (by decide)
      have h30 : (0 : Int) ≤ ρ' 3 := by
        have := hM.1.2 56 6 (0, 30) rfl
        dsimp only at this
        omega
      have hD5 : ∀ d ∈ cS1_2.2.1.2.2.2.2.2.1, 5 ≤ d.1 ∧ d.2 = aid 3 := by decide
      have hJ' : crJ M' := fun i hi => by
        by_cases hin : (i : Int) = ρ' 3
        · have ein : i = (ρ' 3).toNat := by omega
          subst ein
          refine ⟨by omega, fun h4 => ?_⟩
          have c9 := cell_i (p := 9) (i := 3) (k := 11) hS' (by decide)
          have c65 := cell_i (p := 65) (i := 3) (k := 11) hS' (by decide)
          have gx : (1 : Int) + (-1 * ρ' 2 + (1 * ρ' 11 + 0)) ≤ 0 := hS'.fa (f := (.ofNat 1, [(2, .negSucc 0), (11, .ofNat 1)])) (by decide)
          exact ⟨Int32.toInt_inj.mp (c9.trans c65.symm), by omega⟩
        · obtain ⟨j1, j2⟩ := hJ i (by omega)
          have hne : ∀ (t : Nat), ∀ d ∈ cS1_2.2.1.2.2.2.2.2.1, d.1 = t → aev ρ' d.2 ≠ (i : Int) := fun t d hd _ => by
            rw [(hD5 d hd).2, aev_id]
            exact fun z => hin z.symm
          have r9 := row 5 9 5000 rfl (fun i => rfl) (by decide) i (hne _)
          have r65 := row 6 65 5001 rfl (fun i => rfl) (by decide) i (hne _)
          have r62 := row 7 62 5002 rfl (fun i => rfl) (by decide) i (hne _)
          have r64 := row 8 64 5003 rfl (fun i => rfl) (by decide) i (hne _)
          rw [r64, r62, r9, r65]
          exact ⟨show (M 64 i).toInt < _ by omega, fun h4 => ⟨(j2 h4).1, show (M 65 i).toInt < _ by have := (j2 h4).2; omega⟩⟩
      have hT := hdrop (K := kT1_2) (fun d hd => (hD5 d hd).1) rfl
      obtain ⟨ρc, hSc, hρc⟩ := aconv sgS1 qS1_2 hT
      have q0 : ρc 0 = ρ' 0 := (hρc 0 (aid 0) rfl).trans aev_id
      have q1 : ρc 1 = 5 + ρ' 1 := (hρc 1 (5, [(1, 1)]) rfl).trans aev_s
      refine hIH _ (List.mem_cons_self ..) ρc M' cfr' (Or.inl ?_) hJ' hSc hM'
      show ((0 : Int) + (1 * ρc 0 + (-1 * ρc 1 + 0))).toNat < ((0 : Int) + (1 * ρ 0 + (-1 * ρ 1 + 0))).toNat
      omega
    · subst ec
      have c0 := cell_f (p := 56) (b := 0) (k := 12) hS' (by decide)
      have c6 := cell_f (p := 56) (b := 6) (k := 13) hS' (by decide)
      have g1 : (0 : Int) + (-1 * ρ' 2 + (1 * ρ' 12 + 0)) ≤ 0 := hS'.fa (f := (.ofNat 0, [(2, .negSucc 0), (12, .ofNat 1)])) (by decide)
      have g2 : (0 : Int) + (1 * ρ' 2 + (-1 * ρ' 12 + 0)) ≤ 0 := hS'.fa (f := (.ofNat 0, [(2, .ofNat 1), (12, .negSucc 0)])) (by decide)
      have g3 : (-1 : Int) + (-1 * ρ' 3 + (1 * ρ' 13 + 0)) ≤ 0 := hS'.fa (f := (.negSucc 0, [(3, .negSucc 0), (13, .ofNat 1)])) (by decide)
      have g4 : (1 : Int) + (1 * ρ' 3 + (-1 * ρ' 13 + 0)) ≤ 0 := hS'.fa (f := (.ofNat 1, [(3, .ofNat 1), (13, .negSucc 0)])) (by decide)
      have gm : (1 : Int) + (-1 * ρ' 2 + (1 * ρ' 10 + 0)) ≤ 0 := hS'.fa (f := (.ofNat 1, [(2, .negSucc 0), (10, .ofNat 1)])) (by decide)
      have c64 := cell_i (p := 64) (i := 3) (k := 10) hS' (by decide)
      have h30 : (0 : Int) ≤ ρ' 3 := by
        have := hM.1.2 56 6 (0, 30) rfl
        dsimp only at this
        omega
      have hD5 : ∀ d ∈ cS1_3.2.1.2.2.2.2.2.1, 5 ≤ d.1 ∧ d.2 = aid 3 := by decide
      have hJ' : crJ M' := fun i hi => by
        by_cases hin : (i : Int) = ρ' 3
        · have ein : i = (ρ' 3).toNat := by omega
          subst ein
          refine ⟨by omega, fun h4 => ?_⟩
          have c62 := (hS'.ce (q := ((62, aid 3), (.ofNat 5, []))) (by decide)).2
          dsimp only at c62
          rw [aev_id, aev_nil rfl] at c62
          exact absurd (c62.symm.trans h4) (by decide)
        · obtain ⟨j1, j2⟩ := hJ i (by omega)
          have hne : ∀ (t : Nat), ∀ d ∈ cS1_3.2.1.2.2.2.2.2.1, d.1 = t → aev ρ' d.2 ≠ (i : Int) := fun t d hd _ => by
            rw [(hD5 d hd).2, aev_id]
            exact fun z => hin z.symm
          have r9 := row 5 9 5000 rfl (fun i => rfl) (by decide) i (hne _)
          have r65 := row 6 65 5001 rfl (fun i => rfl) (by decide) i (hne _)
          have r62 := row 7 62 5002 rfl (fun i => rfl) (by decide) i (hne _)
          have r64 := row 8 64 5003 rfl (fun i => rfl) (by decide) i (hne _)
          rw [r64, r62, r9, r65]
          exact ⟨show (M 64 i).toInt < _ by omega, fun h4 => ⟨(j2 h4).1, show (M 65 i).toInt < _ by have := (j2 h4).2; omega⟩⟩
      have hT := hdrop (K := kT1_3) (fun d hd => (hD5 d hd).1) rfl
      obtain ⟨ρc, hSc, hρc⟩ := aconv sgS1 qS1_3 hT
      have q0 : ρc 0 = ρ' 0 := (hρc 0 (aid 0) rfl).trans aev_id
      have q1 : ρc 1 = 5 + ρ' 1 := (hρc 1 (5, [(1, 1)]) rfl).trans aev_s
      refine hIH _ (List.mem_cons_self ..) ρc M' cfr' (Or.inl ?_) hJ' hSc hM'
      show ((0 : Int) + (1 * ρc 0 + (-1 * ρc 1 + 0))).toNat < ((0 : Int) + (1 * ρ 0 + (-1 * ρ 1 + 0))).toNat
      omega
    · subst ec
      have c0 := cell_f (p := 56) (b := 0) (k := 12) hS' (by decide)
      have c6 := cell_f (p := 56) (b := 6) (k := 13) hS' (by decide)
      have g1 : (0 : Int) + (-1 * ρ' 2 + (1 * ρ' 12 + 0)) ≤ 0 := hS'.fa (f := (.ofNat 0, [(2, .negSucc 0), (12, .ofNat 1)])) (by decide)
      have g2 : (0 : Int) + (1 * ρ' 2 + (-1 * ρ' 12 + 0)) ≤ 0 := hS'.fa (f := (.ofNat 0, [(2, .ofNat 1), (12, .negSucc 0)])) (by decide)
      have g3 : (-1 : Int) + (-1 * ρ' 3 + (1 * ρ' 13 + 0)) ≤ 0 := hS'.fa (f := (.negSucc 0, [(3, .negSucc 0), (13, .ofNat 1)])) (by decide)
      have g4 : (1 : Int) + (1 * ρ' 3 + (-1 * ρ' 13 + 0)) ≤ 0 := hS'.fa (f := (.ofNat 1, [(3, .ofNat 1), (13, .negSucc 0)])) (by decide)
      have gm : (1 : Int) + (-1 * ρ' 2 + (1 * ρ' 10 + 0)) ≤ 0 := hS'.fa (f := (.ofNat 1, [(2, .negSucc 0), (10, .ofNat 1)])) (by decide)
      have c64 := cell_i (p := 64) (i := 3) (k := 10) hS' (by decide)
      have h30 : (0 : Int) ≤ ρ' 3 := by
        have := hM.1.2 56 6 (0, 30) rfl
        dsimp only at this
        omega
      have hD5 : ∀ d ∈ cS1_4.2.1.2.2.2.2.2.1, 5 ≤ d.1 ∧ d.2 = aid 3 := by decide
      have hJ' : crJ M' := fun i hi => by
        by_cases hin : (i : Int) = ρ' 3
        · have ein : i = (ρ' 3).toNat := by omega
          subst ein
          refine ⟨by omega, fun h4 => ?_⟩
          have c62 := cell_i (p := 62) (i := 3) (k := 8) hS' (by decide)
          have bk := hS'.bd (t := (8, (.ofNat 0, .ofNat 3))) (by decide)
          have bk : (0 : Int) ≤ ρ' 8 ∧ ρ' 8 ≤ 3 := bk
          omega
        · obtain ⟨j1, j2⟩ := hJ i (by omega)
          have hne : ∀ (t : Nat), ∀ d ∈ cS1_4.2.1.2.2.2.2.2.1, d.1 = t → aev ρ' d.2 ≠ (i : Int) := fun t d hd _ => by
            rw [(hD5 d hd).2, aev_id]
            exact fun z => hin z.symm
          have r9 := row 5 9 5000 rfl (fun i => rfl) (by decide) i (hne _)
          have r65 := row 6 65 5001 rfl (fun i => rfl) (by decide) i (hne _)
          have r62 := row 7 62 5002 rfl (fun i => rfl) (by decide) i (hne _)
          have r64 := row 8 64 5003 rfl (fun i => rfl) (by decide) i (hne _)
          rw [r64, r62, r9, r65]
          exact ⟨show (M 64 i).toInt < _ by omega, fun h4 => ⟨(j2 h4).1, show (M 65 i).toInt < _ by have := (j2 h4).2; omega⟩⟩
      have hT := hdrop (K := kT1_4) (fun d hd => (hD5 d hd).1) rfl
      obtain ⟨ρc, hSc, hρc⟩ := aconv sgS1 qS1_4 hT
      have q0 : ρc 0 = ρ' 0 := (hρc 0 (aid 0) rfl).trans aev_id
      have q1 : ρc 1 = 5 + ρ' 1 := (hρc 1 (5, [(1, 1)]) rfl).trans aev_s
      refine hIH _ (List.mem_cons_self ..) ρc M' cfr' (Or.inl ?_) hJ' hSc hM'
      show ((0 : Int) + (1 * ρc 0 + (-1 * ρc 1 + 0))).toNat < ((0 : Int) + (1 * ρ 0 + (-1 * ρ 1 + 0))).toNat
      omega
  rw [e] at key ⊢
  exact PL_hat key (fun r h => h)
theorem law_true (xs : Nat → Int32) (L : Nat) (hL : L ≤ 2560) : ∃ n r, xrun xs L n 231 (0, xent 231 [.ref 999], [], 0, [], fun _ _ => 0) = some r ∧ r.1 = some (.int 1) ∧ r.2.1 ≤ 102 ∧ xsl r.2.2.1 ≤ 2663 := by
  have h := acksJ_of (J := crJ) (Q := xfin) prs_ne hL (ds_law_of hL (aHand_of hL)) (fun M M' hJ hU => crJ_kept hJ hU) (fun M r h => fin_of h) ck_law (fun c hc ρ M cfr hIH hJ hS hM => by
    rcases List.mem_cons.mp hc with ec | hc
    · subst ec
      exact law_s0 hL (fun c' hc' => hIH c' (List.mem_append_left _ hc')) hJ hS hM
    rcases List.mem_cons.mp hc with ec | hc
    · subst ec
      exact law_s1 hL (fun c' hc' => hIH c' (List.mem_append_left _ hc')) hJ hS hM
    have ec := List.mem_singleton.mp hc
    subst ec
    exact law_h0 hL (fun c' hc' => hIH c' (List.mem_append_left _ hc')) hJ hS hM) _ (List.mem_append_left _ (List.mem_cons_self ..)) (rh0 L) xM0 _ crJ_0 (law_hS xs L hL) aInv_0
  have h2 : PL xs L 231 (18, [some (.ref 999), some (.ref 0), some (.ref 56), some (.int 0)], [], 102, xsh0, xM0) xfin := h
  obtain ⟨n, r, h1, h3, h4, h5⟩ := law_begin xs L h2
  exact ⟨n, r, h1, h3, h4, h5⟩
