/-! BY HAND: credential, of class and reference -/
def fc110 (pc : Nat) (st : List aV) : List aFr := [(110, pc, [R_ 0, vi 1], st)]
def kr110 : aE := [e0, (1, (0, 29))]
def bc110 : aCutG := (fc110 26 [], (4, kr110, [lt_ 1 2], [((5, aco 9), aid 2), ((6, aid 1), aid 3)], [((21, aid 3, aco 4), aco 0)], [], []))
def sc110 : aCutG := (fc110 42 [.inl (aid 4), r_ 1], (5, kr110 ++ [(3, (4, 4)), (4, (0, 23))], [lt_ 1 2], [((5, aco 9), aid 2), ((6, aid 1), aid 3), ((8, aid 1), aid 4)], [], [], []))
def tc110 : aCutG := (fc110 62 [.inl (aid 7), r_ 1, .inl (aco 2), .inl (aid 6)], (8, kr110 ++ [(5, (0, 1)), (6, (0, 1)), (7, (0, 2147483647))], [le_ 6 5, le_ 5 6], [((9, aid 1), aid 7)], [], [], []))
def rc110 : aCutG := (fc110 70 [.inl (aid 9)], (10, [e0], [(0, [(6, 1), (8, 2), (9, -1)]), (0, [(6, -1), (8, -2), (9, 1)])], [], [], [], []))
def ct_110e : aCt := (110, [.inr (.inr 0), .inl aFull], [], some aFull, ([], []))
theorem c110_0 : arunG [] [] ([], []) (n105 110 11 5 9 0 ++ [bc110, sc110]) 2 (some (1, 0)) 100 [(110, 0, axent 110 (aen ct_110e.2.1 1 [(0, (0, 2560))]).1, [])] (aK0 ct_110e) = true := by decide +kernel
theorem c110_1 : arunG [] [] ([], []) [tc110] 6 (some (1, 0)) 100 (fc110 45 [.inl (aid 5)]) (kEb [(5, (0, 1))] (kpush sc110.2)) = true := by decide +kernel
theorem c110_2 : arunG [] [] ([], []) [rc110] 9 (some (1, 0)) 100 (fc110 65 [.inl (aid 8), .inl (aco 2), .inl (aid 6)]) (kEb [(8, (0, 1))] (kpush tc110.2)) = true := by decide +kernel
set_option maxRecDepth 100000 in
theorem f110 {xs : Nat → Int32} {L : Nat} {M : xM} {Q : xZ → Prop} {a : Int32} (hL : L ≤ 2560) (hM : aInv M) (hR : aRk M) (hN : ¬ (0 ≤ a.toInt ∧ a.toInt < (M 5 9).toInt) → Q (some (.int (-1)), 102, xsh0, M)) (hB : 0 ≤ a.toInt ∧ a.toInt < (M 5 9).toInt → (M 6 a.toInt.toNat).toInt ≠ 4 → Q (some (.int (-2)), 102, xsh0, M)) (hG : 0 ≤ a.toInt ∧ a.toInt < (M 5 9).toInt → (M 6 a.toInt.toNat).toInt = 4 → Q (some (.int (b2i (gdC M 24 (M 8 a.toInt.toNat).toInt) + 2 * b2i (gdC M 24 (M 9 a.toInt.toNat).toInt))), 102, xsh0, M)) : PL xs L 110 (0, xent 110 [.ref 0, .int a], [], 102, xsh0, M) Q := by
  obtain ⟨ρ2, hS⟩ := aentry (xs := xs) (c := ct_110e) (as := [.ref 0, .int a]) hL hR ⟨rfl, aFull_of a, trivial⟩
  have hl : aloc ρ2 [R_ 0, vi 1] [some (.ref 0), some (.int a)] := (hS ρ2 (agr_refl _ _)).2.1.2.2.1
  have hs1 : a.toInt = ρ2 1 := (show a.toInt = aev ρ2 (aid 1) from hl.2.1).trans aev_id
  show aGl xs L Q M [(110, 0, xent 110 [.ref 0, .int a], [])]
  refine arunG_of (ρ0 := ρ2) (g := 2) (M0 := M) prs0 hL allc0 (fun r h => aPost_no h) ?_ 100 _ _ ρ2 M _ c110_0 hS hM (aUnw.refl _ M) (by decide) (agr_refl _ _)
  intro c hc ρ' M' cfr' hS' hM' hU hag
  have eM : M' = M := aUnw_nil hU
  subst eM
  have e1 : ρ' 1 = a.toInt := (hag 1 (by decide)).trans hs1.symm
  rcases List.mem_append.mp hc with hc | hc
  · obtain ⟨hno, hfr⟩ := n105_of hc hS' e1
    have hk := (hS' ρ' (agr_refl _ _)).2
    rw [hfr] at hk
    obtain ⟨plc, skc, mm, e, hl, hst, hnl⟩ := afrs_cons hk
    have e4 := afrs_nil hnl
    have f3 := astkN hst
    subst e4; subst f3
    rw [e]
    show PL xs L 110 (11, plc, [], 102, xsh0, M') Q
    refine PL.go (k := 1) (s' := (12, plc, [.int (-1)], 102, xsh0, M')) rfl ?_
    exact PL.ret (v := some (.int (-1))) rfl (hN hno)
  · rcases List.mem_cons.mp hc with ec | hc
    · subst ec
      have b1 := hS'.bd (t := (1, (0, 29))) (by decide)
      dsimp only at b1
      have f1 := lt_of (hS'.fa (f := lt_ 1 2) (List.mem_cons_self ..))
      have c1 := cell_f (p := 5) (b := 9) (k := 2) hS' (List.mem_cons_self ..)
      have c2 := cell_i (p := 6) (i := 1) (k := 3) hS' (List.mem_cons_of_mem _ (List.mem_cons_self ..))
      have u := hS'.un (q := ((21, aid 3, aco 4), aco 0)) (List.mem_cons_self ..)
      unfold aun1 at u
      rw [if_neg (show ¬ (21 : Nat) = 20 by decide), if_pos rfl] at u
      dsimp only at u
      rw [aev_id, aev_co] at u
      obtain ⟨plc, skc, mm, e, hl, hst, hnl⟩ := afrs_cons (hS' ρ' (agr_refl _ _)).2
      have e4 := afrs_nil hnl
      have f3 := astkN hst
      subst e4; subst f3
      rw [e]
      show PL xs L 110 (26, plc, [], 102, xsh0, M') Q
      refine PL.go (k := 1) (s' := (28, plc, [.int (-2)], 102, xsh0, M')) rfl ?_
      refine PL.ret (v := some (.int (-2))) rfl (hB ⟨by omega, by omega⟩ ?_)
      rw [← e1, c2]
      exact u
    · have ec := List.mem_singleton.mp hc
      subst ec
      have b1 := hS'.bd (t := (1, (0, 29))) (by decide)
      have b3 := hS'.bd (t := (3, (4, 4))) (by decide)
      have b4 := hS'.bd (t := (4, (0, 23))) (by decide)
      dsimp only at b1 b3 b4
      have f1 := lt_of (hS'.fa (f := lt_ 1 2) (List.mem_cons_self ..))
      have c1 := cell_f (p := 5) (b := 9) (k := 2) hS' (List.mem_cons_self ..)
      have c2 := cell_i (p := 6) (i := 1) (k := 3) hS' (List.mem_cons_of_mem _ (List.mem_cons_self ..))
      have c4 := cell_i (p := 8) (i := 1) (k := 4) hS' (List.mem_cons_of_mem _ (List.mem_cons_of_mem _ (List.mem_cons_self ..)))
      have hin : 0 ≤ a.toInt ∧ a.toInt < (M' 5 9).toInt := by omega
      have h4 : (M' 6 a.toInt.toNat).toInt = 4 := by rw [← e1, c2]; omega
      have hq := hG hin h4
      refine call_cut (z := 22) (as := [r_ 1, .inl (aid 4)]) (rest := []) rfl rfl (by decide) hS' (fun asc R hasc hRR => ?_)
      obtain ⟨x, ex, dx⟩ := args1 hasc
      subst ex
      have hx : x = M' 8 a.toInt.toNat := Int32.toInt_inj.mp (by rw [dx, ← c4, e1])
      subst hx
      skip
      refine f22_ hL hM' hR (by omega) ?_
      obtain ⟨cfr2, hS2, go2⟩ := hRR (b2i (gdC M' 24 (M' 8 a.toInt.toNat).toInt)) M' hR
      refine go2 ?_
      refine arunG_of (ρ0 := apush ρ' 5 (b2i (gdC M' 24 (M' 8 a.toInt.toNat).toInt)).toInt) (g := 6) (M0 := M') prs0 hL allc0 (fun r h => aPost_no h) ?_ 100 _ _ _ M' cfr2 c110_1 (kEb_of (k := 5) (lo := 0) (hi := 1) hS2 (by decide) (apush_in (b2i_b _))) hM (aUnw.refl _ _) (by decide) (agr_refl _ _)
      intro c hc ρ5 M5 cfr5 hS5 hM5 hU5 hag5
      have ec := List.mem_singleton.mp hc
      subst ec
      have eM := aUnw_nil hU5
      subst eM
      have v1 : ρ5 1 = a.toInt := (hag5 1 (by decide)).trans ((show apush ρ' 5 (b2i (gdC M5 24 (M5 8 a.toInt.toNat).toInt)).toInt 1 = ρ' 1 from if_neg (by decide)).trans e1)
      have v5 : ρ5 5 = (b2i (gdC M5 24 (M5 8 a.toInt.toNat).toInt)).toInt := (hag5 5 (by decide)).trans (if_pos rfl)
      have g1 := le_of (hS5.fa (f := le_ 6 5) (List.mem_cons_self ..))
      have g2 := le_of (hS5.fa (f := le_ 5 6) (List.mem_cons_of_mem _ (List.mem_cons_self ..)))
      have c7 := cell_i (p := 9) (i := 1) (k := 7) hS5 (List.mem_cons_self ..)
      have b7 := hS5.bd (t := (7, (0, 2147483647))) (by decide)
      dsimp only at b7
      refine call_cut (z := 22) (as := [r_ 1, .inl (aid 7)]) (rest := [.inl (aco 2), .inl (aid 6)]) rfl rfl (by decide) hS5 (fun asc R hasc hRR => ?_)
      obtain ⟨x2, ex2, dx2⟩ := args1 hasc
      subst ex2
      have hx2 : x2 = M5 9 a.toInt.toNat := Int32.toInt_inj.mp (by rw [dx2, ← c7, v1])
      subst hx2
      have hxb := hM5.1.1 9 (0, 29) rfl a.toInt.toNat
      dsimp only at hxb
      refine f22_ hL hM5 hR (by omega) ?_
      obtain ⟨cfr6, hS6, go6⟩ := hRR (b2i (gdC M5 24 (M5 9 a.toInt.toNat).toInt)) M5 hR
      refine go6 ?_
      refine arunG_of (ρ0 := apush ρ5 8 (b2i (gdC M5 24 (M5 9 a.toInt.toNat).toInt)).toInt) (g := 9) (M0 := M5) prs0 hL allc0 (fun r h => aPost_no h) ?_ 100 _ _ _ M5 cfr6 c110_2 (kEb_of (k := 8) (lo := 0) (hi := 1) hS6 (by decide) (apush_in (b2i_b _))) hM (aUnw.refl _ _) (by decide) (agr_refl _ _)
      intro c hc ρ7 M7 cfr7 hS7 hM7 hU7 hag7
      have ec := List.mem_singleton.mp hc
      subst ec
      have eM := aUnw_nil hU7
      subst eM
      have t6 : ρ7 6 = ρ5 6 := (hag7 6 (by decide)).trans (if_neg (by decide))
      have t8 : ρ7 8 = (b2i (gdC M7 24 (M7 9 a.toInt.toNat).toInt)).toInt := (hag7 8 (by decide)).trans (if_pos rfl)
      have k1 := hS7.fa (f := (0, [(6, 1), (8, 2), (9, -1)])) (List.mem_cons_self ..)
      have k2 := hS7.fa (f := (0, [(6, -1), (8, -2), (9, 1)])) (List.mem_cons_of_mem _ (List.mem_cons_self ..))
      have k1 : (0 : Int) + (1 * ρ7 6 + (2 * ρ7 8 + (-1 * ρ7 9 + 0))) ≤ 0 := k1
      have k2 : (0 : Int) + (-1 * ρ7 6 + (-2 * ρ7 8 + (1 * ρ7 9 + 0))) ≤ 0 := k2
      refine ret_i (y := 110) (pc := 70) rfl rfl hS7 (fun x' hx' => ?_)
      rw [aev_id] at hx'
      have hsum : ∀ (p q : Bool) (z : Int32), z.toInt = (b2i p).toInt + 2 * (b2i q).toInt → z = b2i p + 2 * b2i q := by
        intro p q z hz
        refine Int32.toInt_inj.mp ?_
        rw [hz]
        cases p <;> cases q <;> decide
      have := hsum _ _ x' (show x'.toInt = (b2i (gdC M7 24 (M7 8 a.toInt.toNat).toInt)).toInt + 2 * (b2i (gdC M7 24 (M7 9 a.toInt.toNat).toInt)).toInt by omega)
      subst this
      exact hq
def fc166 (pc : Nat) (st : List aV) : List aFr := [(166, pc, [R_ 56, vi 1], st)]
def kr166 : aE := [e0, (1, (0, 29))]
def bc166 : aCutG := (fc166 20 [], (4, kr166, [lt_ 1 2], [((56, aco 6), aid 2), ((62, aid 1), aid 3)], [((21, aid 3, aco 4), aco 0)], [], []))
def sc166 : aCutG := (fc166 32 [.inl (aid 4), r_ 56], (5, kr166 ++ [(3, (4, 4)), (4, (0, 23))], [lt_ 1 2], [((56, aco 6), aid 2), ((62, aid 1), aid 3), ((64, aid 1), aid 4)], [], [], []))
def tc166 : aCutG := (fc166 50 [.inl (aid 7), r_ 56, .inl (aid 6)], (8, kr166 ++ [(5, (0, 1)), (6, (0, 1)), (7, (0, 2147483647))], [le_ 6 5, le_ 5 6], [((65, aid 1), aid 7)], [], [], []))
def rc166 : aCutG := (fc166 62 [.inl (aid 9)], (10, [e0], [(0, [(6, 1), (8, 2), (9, -1)]), (0, [(6, -1), (8, -2), (9, 1)])], [], [], [], []))
def ct_166e : aCt := (166, [.inr (.inr 56), .inl aFull], [], some aFull, ([], []))
theorem c166_0 : arunG [] [] ([], []) (n105 166 8 56 6 56 ++ [bc166, sc166]) 2 (some (1, 0)) 100 [(166, 0, axent 166 (aen ct_166e.2.1 1 [(0, (0, 2560))]).1, [])] (aK0 ct_166e) = true := by decide +kernel
theorem c166_1 : arunG [] [] ([], []) [tc166] 6 (some (1, 0)) 100 (fc166 35 [.inl (aid 5)]) (kEb [(5, (0, 1))] (kpush sc166.2)) = true := by decide +kernel
theorem c166_2 : arunG [] [] ([], []) [rc166] 9 (some (1, 0)) 100 (fc166 53 [.inl (aid 8), .inl (aid 6)]) (kEb [(8, (0, 1))] (kpush tc166.2)) = true := by decide +kernel
set_option maxRecDepth 100000 in
theorem f166 {xs : Nat → Int32} {L : Nat} {M : xM} {Q : xZ → Prop} {a : Int32} (hL : L ≤ 2560) (hM : aInv M) (hR : aRk M) (hN : ¬ (0 ≤ a.toInt ∧ a.toInt < (M 56 6).toInt) → Q (some (.int (-1)), 102, xsh0, M)) (hB : 0 ≤ a.toInt ∧ a.toInt < (M 56 6).toInt → (M 62 a.toInt.toNat).toInt ≠ 4 → Q (some (.int (-2)), 102, xsh0, M)) (hG : 0 ≤ a.toInt ∧ a.toInt < (M 56 6).toInt → (M 62 a.toInt.toNat).toInt = 4 → Q (some (.int (b2i (gdM M 24 (M 64 a.toInt.toNat).toInt) + 2 * b2i (gdM M 24 (M 65 a.toInt.toNat).toInt))), 102, xsh0, M)) (hA : 0 ≤ a.toInt ∧ a.toInt < (M 56 6).toInt → (M 62 a.toInt.toNat).toInt = 4 → (M 64 a.toInt.toNat).toInt < (M 56 0).toInt ∧ (M 65 a.toInt.toNat).toInt < (M 56 0).toInt) : PL xs L 166 (0, xent 166 [.ref 56, .int a], [], 102, xsh0, M) Q := by
  obtain ⟨ρ2, hS⟩ := aentry (xs := xs) (c := ct_166e) (as := [.ref 56, .int a]) hL hR ⟨rfl, aFull_of a, trivial⟩
  have hl : aloc ρ2 [R_ 56, vi 1] [some (.ref 56), some (.int a)] := (hS ρ2 (agr_refl _ _)).2.1.2.2.1
  have hs1 : a.toInt = ρ2 1 := (show a.toInt = aev ρ2 (aid 1) from hl.2.1).trans aev_id
  show aGl xs L Q M [(166, 0, xent 166 [.ref 56, .int a], [])]
  refine arunG_of (ρ0 := ρ2) (g := 2) (M0 := M) prs0 hL allc0 (fun r h => aPost_no h) ?_ 100 _ _ ρ2 M _ c166_0 hS hM (aUnw.refl _ M) (by decide) (agr_refl _ _)
  intro c hc ρ' M' cfr' hS' hM' hU hag
  have eM : M' = M := aUnw_nil hU
  subst eM
  have e1 : ρ' 1 = a.toInt := (hag 1 (by decide)).trans hs1.symm
  rcases List.mem_append.mp hc with hc | hc
  · obtain ⟨hno, hfr⟩ := n105_of hc hS' e1
    have hk := (hS' ρ' (agr_refl _ _)).2
    rw [hfr] at hk
    obtain ⟨plc, skc, mm, e, hl, hst, hnl⟩ := afrs_cons hk
    have e4 := afrs_nil hnl
    have f3 := astkN hst
    subst e4; subst f3
    rw [e]
    show PL xs L 166 (8, plc, [], 102, xsh0, M') Q
    refine PL.go (k := 1) (s' := (9, plc, [.int (-1)], 102, xsh0, M')) rfl ?_
    exact PL.ret (v := some (.int (-1))) rfl (hN hno)
  · rcases List.mem_cons.mp hc with ec | hc
    · subst ec
      have b1 := hS'.bd (t := (1, (0, 29))) (by decide)
      dsimp only at b1
      have f1 := lt_of (hS'.fa (f := lt_ 1 2) (List.mem_cons_self ..))
      have c1 := cell_f (p := 56) (b := 6) (k := 2) hS' (List.mem_cons_self ..)
      have c2 := cell_i (p := 62) (i := 1) (k := 3) hS' (List.mem_cons_of_mem _ (List.mem_cons_self ..))
      have u := hS'.un (q := ((21, aid 3, aco 4), aco 0)) (List.mem_cons_self ..)
      unfold aun1 at u
      rw [if_neg (show ¬ (21 : Nat) = 20 by decide), if_pos rfl] at u
      dsimp only at u
      rw [aev_id, aev_co] at u
      obtain ⟨plc, skc, mm, e, hl, hst, hnl⟩ := afrs_cons (hS' ρ' (agr_refl _ _)).2
      have e4 := afrs_nil hnl
      have f3 := astkN hst
      subst e4; subst f3
      rw [e]
      show PL xs L 166 (20, plc, [], 102, xsh0, M') Q
      refine PL.go (k := 2) (s' := (62, plc, [.int (-2)], 102, xsh0, M')) rfl ?_
      refine PL.ret (v := some (.int (-2))) rfl (hB ⟨by omega, by omega⟩ ?_)
      rw [← e1, c2]
      exact u
    · have ec := List.mem_singleton.mp hc
      subst ec
      have b1 := hS'.bd (t := (1, (0, 29))) (by decide)
      have b3 := hS'.bd (t := (3, (4, 4))) (by decide)
      have b4 := hS'.bd (t := (4, (0, 23))) (by decide)
      dsimp only at b1 b3 b4
      have f1 := lt_of (hS'.fa (f := lt_ 1 2) (List.mem_cons_self ..))
      have c1 := cell_f (p := 56) (b := 6) (k := 2) hS' (List.mem_cons_self ..)
      have c2 := cell_i (p := 62) (i := 1) (k := 3) hS' (List.mem_cons_of_mem _ (List.mem_cons_self ..))
      have c4 := cell_i (p := 64) (i := 1) (k := 4) hS' (List.mem_cons_of_mem _ (List.mem_cons_of_mem _ (List.mem_cons_self ..)))
      have hin : 0 ≤ a.toInt ∧ a.toInt < (M' 56 6).toInt := by omega
      have h4 : (M' 62 a.toInt.toNat).toInt = 4 := by rw [← e1, c2]; omega
      have hq := hG hin h4
      refine call_cut (z := 159) (as := [r_ 56, .inl (aid 4)]) (rest := []) rfl rfl (by decide) hS' (fun asc R hasc hRR => ?_)
      obtain ⟨x, ex, dx⟩ := args1 hasc
      subst ex
      have hx : x = M' 64 a.toInt.toNat := Int32.toInt_inj.mp (by rw [dx, ← c4, e1])
      subst hx
      have hA := hA hin h4
      refine f159_ hL hM' hR ⟨by omega, hA.1⟩ ?_
      obtain ⟨cfr2, hS2, go2⟩ := hRR (b2i (gdM M' 24 (M' 64 a.toInt.toNat).toInt)) M' hR
      refine go2 ?_
      refine arunG_of (ρ0 := apush ρ' 5 (b2i (gdM M' 24 (M' 64 a.toInt.toNat).toInt)).toInt) (g := 6) (M0 := M') prs0 hL allc0 (fun r h => aPost_no h) ?_ 100 _ _ _ M' cfr2 c166_1 (kEb_of (k := 5) (lo := 0) (hi := 1) hS2 (by decide) (apush_in (b2i_b _))) hM (aUnw.refl _ _) (by decide) (agr_refl _ _)
      intro c hc ρ5 M5 cfr5 hS5 hM5 hU5 hag5
      have ec := List.mem_singleton.mp hc
      subst ec
      have eM := aUnw_nil hU5
      subst eM
      have v1 : ρ5 1 = a.toInt := (hag5 1 (by decide)).trans ((show apush ρ' 5 (b2i (gdM M5 24 (M5 64 a.toInt.toNat).toInt)).toInt 1 = ρ' 1 from if_neg (by decide)).trans e1)
      have v5 : ρ5 5 = (b2i (gdM M5 24 (M5 64 a.toInt.toNat).toInt)).toInt := (hag5 5 (by decide)).trans (if_pos rfl)
      have g1 := le_of (hS5.fa (f := le_ 6 5) (List.mem_cons_self ..))
      have g2 := le_of (hS5.fa (f := le_ 5 6) (List.mem_cons_of_mem _ (List.mem_cons_self ..)))
      have c7 := cell_i (p := 65) (i := 1) (k := 7) hS5 (List.mem_cons_self ..)
      have b7 := hS5.bd (t := (7, (0, 2147483647))) (by decide)
      dsimp only at b7
      refine call_cut (z := 159) (as := [r_ 56, .inl (aid 7)]) (rest := [.inl (aid 6)]) rfl rfl (by decide) hS5 (fun asc R hasc hRR => ?_)
      obtain ⟨x2, ex2, dx2⟩ := args1 hasc
      subst ex2
      have hx2 : x2 = M5 65 a.toInt.toNat := Int32.toInt_inj.mp (by rw [dx2, ← c7, v1])
      subst hx2
      skip
      skip
      refine f159_ hL hM5 hR ⟨by omega, hA.2⟩ ?_
      obtain ⟨cfr6, hS6, go6⟩ := hRR (b2i (gdM M5 24 (M5 65 a.toInt.toNat).toInt)) M5 hR
      refine go6 ?_
      refine arunG_of (ρ0 := apush ρ5 8 (b2i (gdM M5 24 (M5 65 a.toInt.toNat).toInt)).toInt) (g := 9) (M0 := M5) prs0 hL allc0 (fun r h => aPost_no h) ?_ 100 _ _ _ M5 cfr6 c166_2 (kEb_of (k := 8) (lo := 0) (hi := 1) hS6 (by decide) (apush_in (b2i_b _))) hM (aUnw.refl _ _) (by decide) (agr_refl _ _)
      intro c hc ρ7 M7 cfr7 hS7 hM7 hU7 hag7
      have ec := List.mem_singleton.mp hc
      subst ec
      have eM := aUnw_nil hU7
      subst eM
      have t6 : ρ7 6 = ρ5 6 := (hag7 6 (by decide)).trans (if_neg (by decide))
      have t8 : ρ7 8 = (b2i (gdM M7 24 (M7 65 a.toInt.toNat).toInt)).toInt := (hag7 8 (by decide)).trans (if_pos rfl)
      have k1 := hS7.fa (f := (0, [(6, 1), (8, 2), (9, -1)])) (List.mem_cons_self ..)
      have k2 := hS7.fa (f := (0, [(6, -1), (8, -2), (9, 1)])) (List.mem_cons_of_mem _ (List.mem_cons_self ..))
      have k1 : (0 : Int) + (1 * ρ7 6 + (2 * ρ7 8 + (-1 * ρ7 9 + 0))) ≤ 0 := k1
      have k2 : (0 : Int) + (-1 * ρ7 6 + (-2 * ρ7 8 + (1 * ρ7 9 + 0))) ≤ 0 := k2
      refine ret_i (y := 166) (pc := 62) rfl rfl hS7 (fun x' hx' => ?_)
      rw [aev_id] at hx'
      have hsum : ∀ (p q : Bool) (z : Int32), z.toInt = (b2i p).toInt + 2 * (b2i q).toInt → z = b2i p + 2 * b2i q := by
        intro p q z hz
        refine Int32.toInt_inj.mp ?_
        rw [hz]
        cases p <;> cases q <;> decide
      have := hsum _ _ x' (show x'.toInt = (b2i (gdM M7 24 (M7 64 a.toInt.toNat).toInt)).toInt + 2 * (b2i (gdM M7 24 (M7 65 a.toInt.toNat).toInt)).toInt by omega)
      subst this
      exact hq
section ACR
variable {xs : Nat → Int32} {L : Nat} {M : xM}
/-- what is known of SEATS' MEETINGS -/
def crJ (M : xM) : Prop := ∀ i : Nat, (i : Int) < (M 56 6).toInt → (M 64 i).toInt < (M 56 0).toInt ∧ ((M 62 i).toInt = 4 → M 9 i = M 65 i ∧ (M 65 i).toInt < (M 56 0).toInt)
theorem cred_two (hL : L ≤ 2560) (hM : aInv M) (hR : aRk M) (hJ : crJ M) (h2 : ∀ i, M 2 i = M 58 i) (h3 : ∀ i, M 3 i = M 59 i) (h4 : ∀ i, M 4 i = M 60 i) (h6 : ∀ i, M 6 i = M 62 i) (h8 : ∀ i, M 8 i = M 64 i) (hd : (M 1 4).toInt = (M 61 0).toInt) (hq : (M 1 5).toInt = (M 61 1).toInt) (hs : (M 1 3).toInt = (M 56 0).toInt) (hz : (M 5 9).toInt = (M 56 6).toInt) (a : Int32) : ∃ v, aTwo xs L 110 166 [.int a] v M M M := by
  have hg : ∀ z, gdC M 24 z = gdM M 24 z := fun z => gd_congr h2 h3 h4 hd hq hs 24 z
  by_cases hin : 0 ≤ a.toInt ∧ a.toInt < (M 5 9).toInt
  · have hin2 : 0 ≤ a.toInt ∧ a.toInt < (M 56 6).toInt := by omega
    have hJa := hJ a.toInt.toNat (by omega)
    by_cases hk : (M 6 a.toInt.toNat).toInt = 4
    · have hk2 : (M 62 a.toInt.toNat).toInt = 4 := by rw [← h6]; exact hk
      obtain ⟨j1, j2⟩ := hJa.2 hk2
      refine ⟨b2i (gdC M 24 (M 8 a.toInt.toNat).toInt) + 2 * b2i (gdC M 24 (M 9 a.toInt.toNat).toInt), fun R h => f110 hL hM hR (fun hn => absurd hin hn) (fun _ hn => absurd hk hn) (fun _ _ => h), fun R h => f166 hL hM hR (fun hn => absurd hin2 hn) (fun _ hn => absurd hk2 hn) (fun _ _ => ?_) (fun _ _ => ⟨hJa.1, j2⟩), hM, hR, hM, hR⟩
      rw [← hg, ← hg, ← h8, ← j1]
      exact h
    · have hk2 : (M 62 a.toInt.toNat).toInt ≠ 4 := by rw [← h6]; exact hk
      exact ⟨-2, fun R h => f110 hL hM hR (fun hn => absurd hin hn) (fun _ _ => h) (fun _ hn => absurd hn hk), fun R h => f166 hL hM hR (fun hn => absurd hin2 hn) (fun _ _ => h) (fun _ hn => absurd hn hk2) (fun _ hn => absurd hn hk2), hM, hR, hM, hR⟩
  · have hin2 : ¬ (0 ≤ a.toInt ∧ a.toInt < (M 56 6).toInt) := by omega
    exact ⟨-1, fun R h => f110 hL hM hR (fun _ => h) (fun hn => absurd hn hin) (fun hn => absurd hn hin), fun R h => f166 hL hM hR (fun _ => h) (fun hn => absurd hn hin2) (fun hn => absurd hn hin2) (fun hn => absurd hn hin2), hM, hR, hM, hR⟩
end ACR
/-! CUTS WITH SOMETHING MORE THAT IS KEPT -/
section AKJ
variable {xs : Nat → Int32} {L : Nat} {prs : List (Nat × Nat)} {cts : List aCt} {w : aW} {res : Option (Int × Int)} {Q : xZ → Prop} {J : xM → Prop}
theorem acksJ_of {k N : Nat} {ins outs : List aCut} (hp : ∀ pr ∈ prs, pr.1 ≠ pr.2) (hL : L ≤ 2560) (hct : ∀ c ∈ cts, aCon xs L c) (hJ : ∀ M M', J M → aUnw w M M' → J M') (hQ : ∀ M r, aPost res w M r → Q r) (h : acksH prs cts w res k N ins outs = true)
    (hout : ∀ c ∈ outs, ∀ (ρ : Nat → Int) (M : xM) (cfr : List cFr), (∀ c' ∈ ins ++ outs, ∀ (ρ' : Nat → Int) (M' : xM) (cfr' : List cFr), alt (c'.2.2.map (fun m => (aev ρ' m).toNat)) (c.2.2.map (fun m => (aev ρ m).toNat)) → J M' → aHS xs L prs M' c'.2.1 ρ' c'.1 cfr' → aInv M' → aGl xs L Q M' cfr') → J M → aHS xs L prs M c.2.1 ρ c.1 cfr → aInv M → aGl xs L Q M cfr) : ∀ c ∈ ins ++ outs, ∀ (ρ : Nat → Int) (M : xM) (cfr : List cFr), J M → aHS xs L prs M c.2.1 ρ c.1 cfr → aInv M → aGl xs L Q M cfr := by
  unfold acksH at h
  rw [Bool.and_eq_true] at h
  have hlen : ∀ c ∈ ins ++ outs, c.2.2.length = k := fun c hc => by
    rcases List.mem_append.mp hc with hc | hc
    · have hk := List.all_eq_true.mp h.2 c hc
      rw [Bool.and_eq_true, Bool.and_eq_true] at hk
      exact Nat.eq_of_beq_eq_true hk.1.1
    · exact Nat.eq_of_beq_eq_true (List.all_eq_true.mp h.1 c hc)
  have key : ∀ v : List Nat, Acc aLt v → v.length = k → ∀ c ∈ ins ++ outs, ∀ (ρ : Nat → Int) (M : xM) (cfr : List cFr), c.2.2.map (fun m => (aev ρ m).toNat) = v → J M → aHS xs L prs M c.2.1 ρ c.1 cfr → aInv M → aGl xs L Q M cfr := by
    intro v hv
    induction hv with
    | intro v _ ih =>
      intro hl c hc ρ M cfr hcv hJM hS hM
      have step : ∀ c' ∈ ins ++ outs, ∀ (ρ' : Nat → Int) (M' : xM) (cfr' : List cFr), alt (c'.2.2.map (fun m => (aev ρ' m).toNat)) v → J M' → aHS xs L prs M' c'.2.1 ρ' c'.1 cfr' → aInv M' → aGl xs L Q M' cfr' := by
        intro c' hc' ρ' M' cfr' ha hJ' hS' hM'
        have hl' : (c'.2.2.map (fun m => (aev ρ' m).toNat)).length = k := by rw [List.length_map]; exact hlen c' hc'
        exact ih _ ⟨hl'.trans hl.symm, ha⟩ hl' c' hc' ρ' M' cfr' rfl hJ' hS' hM'
      rcases List.mem_append.mp hc with hc | hc
      · have hk := List.all_eq_true.mp h.2 c hc
        rw [Bool.and_eq_true, Bool.and_eq_true] at hk
        refine arunH_of hp hL hct (ms := some c.2.2) (v := v) (cuts := ins ++ outs) (g := 1) (ρ0 := ρ) (M0 := M) (hQ M) ?_ N c.1 c.2.1 ρ M cfr hk.2 hS hM (aUnw.refl _ _) (hS ρ (agr_refl _ _)).1.1 (agr_refl _ _) ?_
        · intro c' hc' ρ' M' cfr' hS' hM' hU' _ ha
          rcases ha with ha | ha
          · cases ha
          · exact step c' hc' ρ' M' cfr' ha (hJ M M' hJM hU') hS' hM'
        · intro os hos ρ' hρ
          cases hos
          rw [← hcv]
          exact List.map_congr_left (fun m hm => by rw [awl_of hρ (List.all_eq_true.mp hk.1.2 m hm)])
      · exact hout c hc ρ M cfr (fun c' hc' ρ' M' cfr' ha => step c' hc' ρ' M' cfr' (by rw [← hcv]; exact ha)) hJM hS hM
  intro c hc ρ M cfr hJM hS hM
  have hl : (c.2.2.map (fun m => (aev ρ m).toNat)).length = k := by rw [List.length_map]; exact hlen c hc
  exact key _ (alt_acc k _ hl) hl c hc ρ M cfr rfl hJM hS hM
end AKJ
