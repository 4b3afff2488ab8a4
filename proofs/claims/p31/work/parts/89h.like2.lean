/-! LIKES: both methods, from their entries -/
section ALE
variable {xs : Nat → Int32} {L : Nat} {M : xM} {s name : Int32} {Q : xZ → Prop}
theorem lkN_of {fr : List aFr} {p b : Nat} {ρ : Nat → Int} {cfr : List cFr} {c : aCutG} (hc : c ∈ lkN fr p b) (hS : aHS xs L [] M c.2 ρ c.1 cfr) (h1 : ρ 1 = s.toInt) (h2 : ρ 2 = name.toInt) : ¬ lkIn M p b s name := by
  intro hi
  obtain ⟨i1, i2, i3, i4⟩ := hi
  have hk := (hS ρ (agr_refl _ _)).1
  unfold lkN at hc
  rcases List.mem_cons.mp hc with e | hc
  · subst e
    have := hk.2.2.1 (1, (-2147483648, -1)) (List.mem_cons_of_mem _ (List.mem_cons_self ..))
    dsimp only at this
    omega
  · rcases List.mem_cons.mp hc with e | hc
    · subst e
      have f1 := hk.2.2.2.1 _ (List.mem_cons_self ..)
      have c1 := hk.2.2.2.2.1 ((p, aco b), aid 3) (List.mem_cons_self ..)
      dsimp only at c1
      rw [aev_sub, aev_id, aev_id] at f1
      rw [aev_co, aev_id, Int.toNat_natCast] at c1
      omega
    · rcases List.mem_cons.mp hc with e | hc
      · subst e
        have := hk.2.2.1 (2, (-2147483648, -1)) (List.mem_cons_of_mem _ (List.mem_cons_self ..))
        dsimp only at this
        omega
      · have e := List.mem_singleton.mp hc
        subst e
        have := hk.2.2.1 (2, (8, 2147483647)) (List.mem_cons_of_mem _ (List.mem_cons_self ..))
        dsimp only at this
        omega
theorem lS_of {fr : List aFr} {p b : Nat} {ρ : Nat → Int} {cfr : List cFr} (hS : aHS xs L [] M (lS fr p b).2 ρ fr cfr) (h1 : ρ 1 = s.toInt) (h2 : ρ 2 = name.toInt) : lkIn M p b s name := by
  have hk := (hS ρ (agr_refl _ _)).1
  have b1 := hk.2.2.1 (1, (0, 29)) (List.mem_cons_of_mem _ (List.mem_cons_self ..))
  have b2 := hk.2.2.1 (2, (0, 7)) (List.mem_cons_of_mem _ (List.mem_cons_of_mem _ (List.mem_cons_self ..)))
  have f1 := hk.2.2.2.1 _ (List.mem_cons_self ..)
  have c1 := hk.2.2.2.2.1 ((p, aco b), aid 3) (List.mem_cons_self ..)
  dsimp only at b1 b2 c1
  rw [aev_add, aev_co, aev_sub, aev_id, aev_id] at f1
  rw [aev_co, aev_id, Int.toNat_natCast] at c1
  exact ⟨by omega, by omega, by omega, by omega⟩
set_option maxRecDepth 100000 in
theorem f164 (hL : L ≤ 2560) (hM : aInv M) (hR : aRk M) (hq : lkQ M 56 6 68 69 s name Q) : PL xs L 164 (0, xent 164 [.ref 56, .int s, .int name], [], 102, xsh0, M) Q := by
  obtain ⟨ρ2, hS⟩ := aentry (xs := xs) (c := ct_164) (as := [.ref 56, .int s, .int name]) hL hR ⟨rfl, aFull_of s, aFull_of name, trivial⟩
  have hl : aloc ρ2 [some (.inr (.inr (.inl 56))), vi 1, vi 2, none] [some (.ref 56), some (.int s), some (.int name), none] := (hS ρ2 (agr_refl _ _)).2.1.2.2.1
  have hs1 : s.toInt = ρ2 1 := (show s.toInt = aev ρ2 (aid 1) from hl.2.1).trans aev_id
  have hs2 : name.toInt = ρ2 2 := (show name.toInt = aev ρ2 (aid 2) from hl.2.2.1).trans aev_id
  show aGl xs L Q M [(164, 0, xent 164 [.ref 56, .int s, .int name], [])]
  refine arunG_of (ρ0 := ρ2) (g := 3) (M0 := M) prs0 hL allc0 (fun r h => aPost_no h) ?_ 100 _ _ ρ2 M _ r164_0 hS hM (aUnw.refl _ M) (by decide) (agr_refl _ _)
  intro c hc ρ' M' cfr' hS' hM' hU hag
  have eM : M' = M := aUnw_nil hU
  subst eM
  have e1 : ρ' 1 = s.toInt := (hag 1 (by decide)).trans hs1.symm
  have e2 : ρ' 2 = name.toInt := (hag 2 (by decide)).trans hs2.symm
  rcases List.mem_append.mp hc with hc | hc
  · have hno := lkN_of hc hS' e1 e2
    have hfr : c.1 = fm164 15 none [] := by
      unfold lkN at hc
      simp only [List.mem_cons, List.not_mem_nil, or_false] at hc
      rcases hc with e | e | e | e <;> rw [e]
    have hk := (hS' ρ' (agr_refl _ _)).2
    rw [hfr] at hk
    obtain ⟨plc, skc, m, e, hl, hst, hnl⟩ := afrs_cons hk
    have e4 := afrs_nil hnl
    have f3 := astkN hst
    subst e4; subst f3
    rw [e]
    show PL xs L 164 (15, plc, [], 102, xsh0, M') Q
    refine PL.go (k := 1) (s' := (16, plc, [.int (-1)], 102, xsh0, M')) rfl ?_
    exact PL.ret (v := some (.int (-1))) rfl (hq.1 hno)
  · have ec := List.mem_singleton.mp hc
    subst ec
    have hin := lS_of (fr := fm164 19 (some (.inl (aco 0))) []) hS' e1 e2
    obtain ⟨ρc, hSc, hρc⟩ := aconv lsg r164_3 hS'
    have q1 : ρc 1 = ρ' 1 := (hρc 1 (aid 1) rfl).trans aev_id
    have q2 : ρc 2 = ρ' 2 := (hρc 2 (aid 2) rfl).trans aev_id
    have q3 : ρc 3 = 0 := (hρc 3 (aco 0) rfl).trans aev_co
    exact l164 hL hM' hin hq _ ρc cfr' rfl (q1.trans e1) (q2.trans e2) (fun j hj => by omega) hSc
theorem lk_rng {p b cp vp : Nat} (hcv : (cp = 13 ∧ vp = 14) ∨ (cp = 68 ∧ vp = 69)) (hM : aInv M) (hR : aRk M) (hb : (M p b).toInt ≤ 30) : lkQ M p b cp vp s name (aPost (some (-2147483648, 9)) ([cp, vp], []) M) := by
  refine ⟨fun _ => ⟨M, rfl, hM, hR, ?_, aUnw.refl _ _⟩, fun _ _ => ⟨M, rfl, hM, hR, ?_, aUnw.refl _ _⟩, fun hi hno => ?_⟩
  · show (-2147483648 : Int) ≤ (-1 : Int32).toInt ∧ (-1 : Int32).toInt ≤ 9
    decide
  · show (-2147483648 : Int) ≤ (-2 : Int32).toInt ∧ (-2 : Int32).toInt ≤ 9
    decide
  · obtain ⟨i1, i2, i3, i4⟩ := hi
    obtain ⟨h7, h8, h9, h10⟩ := lk_ok hcv hM hR (s := s.toInt.toNat) (name := name) (by omega) ⟨i3, i4⟩ (fun j hj e => hno ⟨j, hj, e⟩)
    refine ⟨_, rfl, h8, h9, ?_, h10⟩
    have hcb : aIvA cp = some (0, 8) := by rcases hcv with ⟨e, -⟩ | ⟨e, -⟩ <;> (subst e; rfl)
    have hc := hM.1.1 cp _ hcb s.toInt.toNat
    show (-2147483648 : Int) ≤ (M cp s.toInt.toNat + 1).toInt ∧ (M cp s.toInt.toNat + 1).toInt ≤ 9
    dsimp only at hc
    rw [i32_1 (by omega) (by omega)]
    omega
theorem h164 (hL : L ≤ 2560) : aCon xs L ct_164 := by
  intro M as hM hRk hpv _
  match as, hpv with
  | [.ref q, .int s, .int name], hpv =>
    have e : q = 56 := hpv.1
    subst e
    have hb := hM.1.2 56 6 (0, 30) rfl
    exact f164 hL hM hRk (lk_rng (Or.inr ⟨rfl, rfl⟩) hM hRk hb.2)
set_option maxRecDepth 100000 in
theorem t70 (hM : aInv M) (hR : aRk M) (h0 : 0 ≤ s.toInt) (h1 : s.toInt < 30) (hn : 0 ≤ name.toInt ∧ name.toInt ≤ 7) (hno : ¬ lkHas M 13 14 s name) (k : Q (some (.int (M 13 s.toInt.toNat + 1)), 102, xsh0, lkM M 13 14 s.toInt.toNat name)) : PL xs L 70 (0, xent 70 [.ref 5, .int s, .int name], [], 102, xsh0, M) Q := by
  have hno' : ∀ j : Nat, (j : Int) < (M 13 s.toInt.toNat).toInt → M 14 (8 * s.toInt.toNat + j) ≠ name := fun j hj e => hno ⟨j, hj, e⟩
  obtain ⟨h7, -⟩ := lk_ok (cp := 13) (vp := 14) (Or.inl ⟨rfl, rfl⟩) hM hR (s := s.toInt.toNat) (by omega) hn hno'
  have hc := hM.1.1 13 (0, 8) rfl s.toInt.toNat
  dsimp only at hc
  have hsn := natC (i := s) rfl h0
  have hix := i32_8' (s := s) (c := M 13 s.toInt.toNat) h0 h1 hc.1 hc.2
  have hixn := natC hix (by omega)
  refine PL.go (k := 8) (s' := (13, [some (.ref 5), some (.int s), some (.int name)], [.int s, .ref 13, .int (s * (8 : Int32)), .ref 14], 102, xsh0, M)) rfl ?_
  refine PL.next (ys_iald (p := 13) (n := 30) rfl rfl rfl h0 h1) ?_
  rw [hsn]
  refine PL.go (k := 2) (s' := (16, [some (.ref 5), some (.int s), some (.int name)], [.int name, .int (s * (8 : Int32) + M 13 s.toInt.toNat), .ref 14], 102, xsh0, M)) rfl ?_
  refine PL.next (ys_iast (p := 14) (n := 240) rfl rfl (by rw [hix]; omega) (by rw [hix]; omega)) ?_
  rw [hixn, show (8 * s.toInt + (M 13 s.toInt.toNat).toInt).toNat = 8 * s.toInt.toNat + (M 13 s.toInt.toNat).toInt.toNat by omega]
  refine PL.go (k := 4) (s' := (23, [some (.ref 5), some (.int s), some (.int name)], [.int s, .ref 13, .int s, .ref 13], 102, xsh0, xup M 14 (8 * s.toInt.toNat + (M 13 s.toInt.toNat).toInt.toNat) name)) rfl ?_
  refine PL.next (ys_iald (p := 13) (n := 30) rfl rfl rfl h0 h1) ?_
  rw [hsn, xup_ne (Or.inl (by decide))]
  refine PL.go (k := 3) (s' := (27, [some (.ref 5), some (.int s), some (.int name)], [.int (M 13 s.toInt.toNat + 1), .int s, .ref 13, .int (M 13 s.toInt.toNat + 1)], 102, xsh0, xup M 14 (8 * s.toInt.toNat + (M 13 s.toInt.toNat).toInt.toNat) name)) rfl ?_
  refine PL.next (ys_iast (p := 13) (n := 30) rfl rfl h0 h1) ?_
  rw [hsn]
  exact PL.ret (v := some (.int (M 13 s.toInt.toNat + 1))) rfl k
set_option maxRecDepth 100000 in
theorem l108 (hL : L ≤ 2560) (hM : aInv M) (hin : lkIn M 5 9 s name) (hq : lkQ M 5 9 13 14 s name Q) : ∀ (n : Nat) (ρ : Nat → Int) (cfr : List cFr), (8 - ρ 3).toNat = n → ρ 1 = s.toInt → ρ 2 = name.toInt → lkSeen M 14 s name (ρ 3) → aHS xs L [] M (lA (fm69 2 (vi 3) [])).2 ρ (lA (fm69 2 (vi 3) [])).1 cfr → aGl xs L Q M cfr := by
  intro n
  induction n using Nat.strongRecOn with
  | _ n ih =>
    intro ρ cfr hn hs1 hs2 hseen hS
    have hR := hS.rk rfl
    refine arunG_of (ρ0 := ρ) (g := 4) (M0 := M) prs0 hL allc0 (fun r h => aPost_no h) ?_ 100 _ _ ρ M cfr r108_1 hS hM (aUnw.refl _ M) (Nat.le_refl 4) (agr_refl _ _)
    intro c hc ρ' M' cfr' hS' hM' hU hag
    have eM : M' = M := aUnw_nil hU
    subst eM
    have e1 : ρ' 1 = ρ 1 := hag 1 (by decide)
    have e2 : ρ' 2 = ρ 2 := hag 2 (by decide)
    have e3 : ρ' 3 = ρ 3 := hag 3 (by decide)
    have hk := hS' ρ' (agr_refl _ _)
    rcases List.mem_cons.mp hc with ec | hc
    · subst ec
      obtain ⟨b1, b2, b3, b4, b5, b6, b7⟩ := lB_of (fr := fm69 24 (vi 3) [.inl (aid 2), .inl (aid 5)]) hS'
      obtain ⟨plc, skc, m, e, hl, hst, hnl⟩ := afrs_cons hk.2
      obtain ⟨pld, skd, m', e', hl', hst', hnl'⟩ := afrs_cons hnl
      have e4 := afrs_nil hnl'
      have e5 := astkN hst'
      obtain ⟨v1, sk1, f1, g1, hst⟩ := astkC hst
      obtain ⟨v2, sk2, f2, g2, hst⟩ := astkC hst
      have f3 := astkN hst
      obtain ⟨x1, a1, d1⟩ := avalI g1
      obtain ⟨x2, a2, d2⟩ := avalI g2
      subst e4; subst e5; subst e'; subst f3; subst a1; subst a2; subst f2; subst f1
      rw [aev_id] at d1 d2
      have hx1 : x1 = name := Int32.toInt_inj.mp (by omega)
      subst hx1
      have hx2 : x2 = M' 14 (8 * s.toInt.toNat + (ρ' 3).toNat) := Int32.toInt_inj.mp (by rw [d2, ← b6, e1, hs1])
      have hrun : ¬ x2 = x1 → aGl xs L Q M' [(69, 29, plc, []), (108, 29, pld, [])] := fun hne => by
        have hS2 : aHS xs L [] M' (lB [] 13 14).2 ρ' (fm69 29 (vi 3) []) [(69, 29, plc, []), (108, 29, pld, [])] := fun ρ'' h => by
          have := (hS' ρ'' h).2
          rw [e] at this
          exact ⟨(hS' ρ'' h).1, ⟨rfl, rfl, this.1.2.2.1, trivial⟩, this.2⟩
        refine arunG_of (ρ0 := ρ') (g := 4) (M0 := M') prs0 hL allc0 (fun r h => aPost_no h) ?_ 100 _ _ ρ' M' _ r108_2 hS2 hM (aUnw.refl _ M') (by decide) (agr_refl _ _)
        intro c hc ρ3 M3 cfr3 hS3 hM3 hU3 hag3
        have ec := List.mem_singleton.mp hc
        subst ec
        have eM := aUnw_nil hU3
        subst eM
        obtain ⟨ρc, hSc, hρc⟩ := aconv lsg1 r108_4 hS3
        have q1 : ρc 1 = ρ3 1 := (hρc 1 (aid 1) rfl).trans aev_id
        have q2 : ρc 2 = ρ3 2 := (hρc 2 (aid 2) rfl).trans aev_id
        have q3 : ρc 3 = 1 + ρ3 3 := (hρc 3 (1, [(3, 1)]) rfl).trans (by show (1 : Int) + (1 * ρ3 3 + 0) = _; omega)
        have u1 : ρ3 1 = ρ' 1 := hag3 1 (by decide)
        have u2 : ρ3 2 = ρ' 2 := hag3 2 (by decide)
        have u3 : ρ3 3 = ρ' 3 := hag3 3 (by decide)
        refine ih (8 - ρc 3).toNat (by omega) ρc cfr3 rfl (by omega) (by omega) (fun j hj => ?_) hSc
        by_cases hjj : (j : Int) < ρ 3
        · exact hseen j hjj
        · rw [show j = (ρ' 3).toNat by omega, ← hx2]
          exact hne
      rw [e]
      show PL xs L 69 (24, plc, [.int x1, .int x2], 102, xsh0, M') (acont xs L Q [(108, 29, pld, [])])
      refine PL.go (k := 1) (s' := (xcmp .ne x2 x1 29 27, plc, [], 102, xsh0, M')) rfl ?_
      refine PLne hrun (fun heq => ?_)
      refine PL.go (k := 1) (s' := (28, plc, [.int 1], 102, xsh0, M')) rfl ?_
      refine PL.ret (v := some (.int 1)) rfl ⟨rfl, ?_⟩
      show PL xs L 108 (29, pld, [.int 1], 102, xsh0, M') Q
      refine PL.go (k := 3) (s' := (46, pld, [.int (-2)], 102, xsh0, M')) rfl ?_
      refine PL.ret (v := some (.int (-2))) rfl (hq.2.1 hin ⟨(ρ' 3).toNat, ?_, ?_⟩)
      · rw [← hs1, ← e1, b5]; omega
      · rw [← hx2]; exact heq
    · have ec := List.mem_singleton.mp hc
      subst ec
      obtain ⟨b1, b2, b3, b4⟩ := lC_of (fr := fm69 35 (vi 3) []) hS'
      obtain ⟨plc, skc, m, e, hl0, hst, hnl⟩ := afrs_cons hk.2
      obtain ⟨pld, skd, m', e', hl, hst', hnl'⟩ := afrs_cons hnl
      have e4 := afrs_nil hnl'
      have e5 := astkN hst'
      have f3 := astkN hst
      obtain ⟨v1, l1, f1, g1, hl⟩ := alocC hl
      obtain ⟨v2, l2, f2, g2, hl⟩ := alocC hl
      obtain ⟨v3, l3, f4, g3, hl⟩ := alocC hl
      have f6 := alocN hl
      have a1 := alo1R g1
      obtain ⟨x2, a2, d2⟩ := alo1I g2
      obtain ⟨x3, a3, d3⟩ := alo1I g3
      subst e4; subst e5; subst e'; subst f3; subst a1; subst a2; subst a3; subst f6; subst f4; subst f2; subst f1
      rw [aev_id] at d2 d3
      have hx2 : x2 = s := Int32.toInt_inj.mp (by omega)
      have hx3 : x3 = name := Int32.toInt_inj.mp (by omega)
      subst hx2; subst hx3
      have hno : ¬ lkHas M' 13 14 x2 x3 := fun ⟨j, hj, ej⟩ => by
        rw [← hs1, ← e1, b4] at hj
        exact hseen j (by omega) ej
      rw [e]
      show PL xs L 69 (35, plc, [], 102, xsh0, M') (acont xs L Q [(108, 29, [some (.ref 0), some (.int x2), some (.int x3)], [])])
      refine PL.go (k := 1) (s' := (36, plc, [.int 0], 102, xsh0, M')) rfl ?_
      refine PL.ret (v := some (.int 0)) rfl ⟨rfl, ?_⟩
      show PL xs L 108 (29, [some (.ref 0), some (.int x2), some (.int x3)], [.int 0], 102, xsh0, M') Q
      refine PL.go (k := 5) (s' := (43, [some (.ref 0), some (.int x2), some (.int x3)], [.int x3, .int x2, .ref 5], 102, xsh0, M')) rfl ?_
      refine PL.callL (z := 70) (as := [.ref 5, .int x2, .int x3]) (pc := 46) (pl := [some (.ref 0), some (.int x2), some (.int x3)]) (st := []) (nz := 102) (sh := xsh0) (M := M') rfl (Nat.le_of_ble_eq_true rfl) ?_
      refine t70 hM hR (by omega) (by omega) hin.2.2 hno ⟨rfl, ?_⟩
      exact PL.ret (v := some (.int (M' 13 x2.toInt.toNat + 1))) rfl (hq.2.2 hin hno)
set_option maxRecDepth 100000 in
theorem f108 (hL : L ≤ 2560) (hM : aInv M) (hR : aRk M) (hq : lkQ M 5 9 13 14 s name Q) : PL xs L 108 (0, xent 108 [.ref 0, .int s, .int name], [], 102, xsh0, M) Q := by
  obtain ⟨ρ2, hS⟩ := aentry (xs := xs) (c := ct_108) (as := [.ref 0, .int s, .int name]) hL hR ⟨rfl, aFull_of s, aFull_of name, trivial⟩
  have hl : aloc ρ2 [some (.inr (.inr (.inl 0))), vi 1, vi 2] [some (.ref 0), some (.int s), some (.int name)] := (hS ρ2 (agr_refl _ _)).2.1.2.2.1
  have hs1 : s.toInt = ρ2 1 := (show s.toInt = aev ρ2 (aid 1) from hl.2.1).trans aev_id
  have hs2 : name.toInt = ρ2 2 := (show name.toInt = aev ρ2 (aid 2) from hl.2.2.1).trans aev_id
  show aGl xs L Q M [(108, 0, xent 108 [.ref 0, .int s, .int name], [])]
  refine arunG_of (ρ0 := ρ2) (g := 3) (M0 := M) prs0 hL allc0 (fun r h => aPost_no h) ?_ 100 _ _ ρ2 M _ r108_0 hS hM (aUnw.refl _ M) (by decide) (agr_refl _ _)
  intro c hc ρ' M' cfr' hS' hM' hU hag
  have eM : M' = M := aUnw_nil hU
  subst eM
  have e1 : ρ' 1 = s.toInt := (hag 1 (by decide)).trans hs1.symm
  have e2 : ρ' 2 = name.toInt := (hag 2 (by decide)).trans hs2.symm
  rcases List.mem_append.mp hc with hc | hc
  · have hno := lkN_of hc hS' e1 e2
    have hfr : c.1 = fm108 18 := by
      unfold lkN at hc
      simp only [List.mem_cons, List.not_mem_nil, or_false] at hc
      rcases hc with e | e | e | e <;> rw [e]
    have hk := (hS' ρ' (agr_refl _ _)).2
    rw [hfr] at hk
    obtain ⟨plc, skc, m, e, hl, hst, hnl⟩ := afrs_cons hk
    have e4 := afrs_nil hnl
    have f3 := astkN hst
    subst e4; subst f3
    rw [e]
    show PL xs L 108 (18, plc, [], 102, xsh0, M') Q
    refine PL.go (k := 1) (s' := (19, plc, [.int (-1)], 102, xsh0, M')) rfl ?_
    exact PL.ret (v := some (.int (-1))) rfl (hq.1 hno)
  · have ec := List.mem_singleton.mp hc
    subst ec
    have hin := lS_of (fr := fm69 2 (some (.inl (aco 0))) []) hS' e1 e2
    obtain ⟨ρc, hSc, hρc⟩ := aconv lsg r108_3 hS'
    have q1 : ρc 1 = ρ' 1 := (hρc 1 (aid 1) rfl).trans aev_id
    have q2 : ρc 2 = ρ' 2 := (hρc 2 (aid 2) rfl).trans aev_id
    have q3 : ρc 3 = 0 := (hρc 3 (aco 0) rfl).trans aev_co
    exact l108 hL hM' hin hq _ ρc cfr' rfl (q1.trans e1) (q2.trans e2) (fun j hj => by omega) hSc
theorem h108 (hL : L ≤ 2560) : aCon xs L ct_108 := by
  intro M as hM hRk hpv _
  match as, hpv with
  | [.ref q, .int s, .int name], hpv =>
    have e : q = 0 := hpv.1
    subst e
    have hb := hM.1.2 5 9 (0, 30) rfl
    exact f108 hL hM hRk (lk_rng (Or.inl ⟨rfl, rfl⟩) hM hRk hb.2)
theorem aHand_of (hL : L ≤ 2560) : aHand xs L := ⟨h159a hL, h159b hL, h108 hL, h164 hL, h56_1 hL, h56_2 hL, h56_3 hL, h201 hL⟩
end ALE
