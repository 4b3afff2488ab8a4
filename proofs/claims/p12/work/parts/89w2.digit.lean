/-! DIGITS AND NUMBERS, of the class -/
def E100 : aE := [e0, (1, (0, 120)), (2, (0, 120))]
def p100 (l : Int) (d : Option aV) : List (Option aV) := [R_ 15, some (.inl (aco l)), d]
/-- a digit: that of at least l -/
def y100 (l : Int) : aCutG := ([(100, 36, p100 l (some (.inl (-48, [(4, 1)]))), [.inl (-48, [(4, 1)])])], (5, E100 ++ [(3, (0, 0)), (4, (48 + l, 57))], [lt_ 2 1], [((15, aco 2), (1, [(2, 1)])), ((15, aco 3), aid 3)], [], [], []))
def z100 (l : Int) (E : aE) (F : List aL) : aCutG := ([(100, 24, p100 l none, [.inl (aco l)])], (5, E100 ++ E, F, [((15, aco 2), aid 2), ((15, aco 3), aco 1)], [], [], []))
def r100 (l : Int) : Bool := arunG [] [] wT [y100 l, z100 l [(3, (1, 1))] [], z100 l [(3, (0, 0))] [le_ 1 2], z100 l [(3, (0, 0)), (4, (0, 47 + l))] [lt_ 2 1], z100 l [(3, (0, 0)), (4, (58, 255))] [lt_ 2 1]] 5 (some (1, 0)) 200 [(100, 0, p100 l none, [])] (k4c k1_)
theorem r100_0 : r100 0 = true := by decide +kernel
theorem r100_1 : r100 1 = true := by decide +kernel
section AVD
variable {xs : Nat → Int32} {L : Nat}
theorem f100_ (hL : L ≤ 2560) {l : Int} (hl01 : l = 0 ∨ l = 1) (hr : r100 l = true) {x : Int32} (hx : x.toInt = l) : cOp xs L 100 [.ref 15, .int x] (fun b T s => dig b T l s) (fun v => ∃ d : Int32, v = some (.int d) ∧ 0 ≤ d.toInt ∧ d.toInt ≤ 9) := by
  intro M Q hM hR hk hQ
  have hS0 : aHS xs L [] M k1_ (fun _ => (L : Int)) [(100, 0, p100 l none, [])] [(100, 0, xent 100 [.ref 15, .int x], [])] := by
    intro ρ' h
    have h0 : ρ' 0 = (L : Int) := h 0 (by decide)
    refine ⟨⟨by decide, h0, fun t ht => ?_, fun f hf => (by cases hf), fun q hq => (by cases hq), fun q hq => (by cases hq), fun j pr hj => (by cases hj), fun j r hj i => Or.inl (hR j r hj i)⟩, ⟨rfl, rfl, ⟨rfl, ?_, trivial, trivial⟩, trivial⟩, trivial⟩
    · have et := List.mem_singleton.mp ht
      subst et
      show (0 : Int) ≤ ρ' 0 ∧ ρ' 0 ≤ 2560
      omega
    · show x.toInt = aev ρ' (aco l)
      rw [aev_co]
      exact hx
  obtain ⟨ρ2, hS, hag0, hT, hA, hF, hB⟩ := k4c_of hM hk hS0
  have hT : ρ2 1 = tT M := hT
  have hA : ρ2 2 = (M 15 2).toInt := hA
  have hF : ρ2 3 = (M 15 3).toInt := hF
  have hB : ρ2 4 = tB M (M 15 2).toInt.toNat := hB
  show aGl xs L Q M [(100, 0, xent 100 [.ref 15, .int x], [])]
  unfold r100 at hr
  refine arunG_of (ρ0 := ρ2) (g := 5) (M0 := M) prs0 hL allc0 (fun r h => aPost_no h) ?_ 200 _ _ ρ2 M _ hr hS hM (aUnw.refl _ M) (by decide) (agr_refl _ _)
  intro c' hc' ρ' M' cfr' hS' hM' hU hag
  have e1 : ρ' 1 = ρ2 1 := hag 1 (by decide)
  have e2 : ρ' 2 = ρ2 2 := hag 2 (by decide)
  have e3 : ρ' 3 = ρ2 3 := hag 3 (by decide)
  have e4 : ρ' 4 = ρ2 4 := hag 4 (by decide)
  have hnB : ρ' 3 = 0 → ρ' 2 < ρ' 1 → nxt (tB M) (tT M) (tS M) = ρ' 4 := fun h3 h2 => by
    unfold nxt tS
    rw [if_pos]
    · dsimp only
      rw [e4, hB]
    · dsimp only
      exact ⟨decide_eq_false (by omega), by omega⟩
  have fault : ∀ {E : aE} {F : List aL}, aHS xs L [] M' (z100 l E F).2 ρ' (z100 l E F).1 cfr' → ¬ (48 + l ≤ nxt (tB M) (tT M) (tS M) ∧ nxt (tB M) (tT M) (tS M) ≤ 57) → aGl xs L Q M' cfr' := fun {E F} hz hno => by
    have c2 := cell_f (p := 15) (b := 2) (k := 2) hz (List.mem_cons_self ..)
    have c3 := (hz.ce (q := ((15, aco 3), aco 1)) (List.mem_cons_of_mem _ (List.mem_cons_self ..))).2
    dsimp only at c3
    rw [aev_co, aev_co] at c3
    have c3 : (M' 15 3).toInt = 1 := c3
    refine ret_i (y := 100) (pc := 24) rfl rfl hz (fun d hd => hQ (some (.int d)) M' hM' (hz.rk rfl) (wT_ok hU hk) hU ⟨d, rfl, by rw [hd, aev_co]; omega, by rw [hd, aev_co]; omega⟩ ?_)
    show tS M' = dig (tB M) (tT M) l (tS M)
    unfold dig
    rw [if_neg hno]
    unfold tS
    dsimp only
    rw [c3, c2, e2, hA]
    rfl
  simp only [List.mem_cons, List.not_mem_nil, or_false] at hc'
  rcases hc' with e | e | e | e | e
  · subst e
    have b3 := hS'.bd (t := (3, (0, 0))) (List.mem_append_right _ (List.mem_cons_self ..))
    have b4 := hS'.bd (t := (4, (48 + l, 57))) (List.mem_append_right _ (List.mem_cons_of_mem _ (List.mem_cons_self ..)))
    dsimp only at b3 b4
    have f1 := lt_of (hS'.fa (f := lt_ 2 1) (List.mem_cons_self ..))
    have c2 := (hS'.ce (q := ((15, aco 2), (1, [(2, 1)]))) (List.mem_cons_self ..)).2
    dsimp only at c2
    rw [aev_co, aev_s] at c2
    have c2 : (M' 15 2).toInt = 1 + ρ' 2 := c2
    have c3 := cell_f (p := 15) (b := 3) (k := 3) hS' (List.mem_cons_of_mem _ (List.mem_cons_self ..))
    have hn := hnB (by omega) f1
    refine ret_i (y := 100) (pc := 36) rfl rfl hS' (fun d hd => hQ (some (.int d)) M' hM' (hS'.rk rfl) (wT_ok hU hk) hU ⟨d, rfl, ?_, ?_⟩ ?_)
    · rw [aev_s] at hd
      omega
    · rw [aev_s] at hd
      omega
    · show tS M' = dig (tB M) (tT M) l (tS M)
      unfold dig
      rw [if_pos (by omega)]
      unfold tS
      dsimp only
      rw [c2, c3, e2, e3, hA, hF, Int.add_comm]
  · subst e
    have b3 := hS'.bd (t := (3, (1, 1))) (List.mem_append_right _ (List.mem_cons_self ..))
    dsimp only at b3
    refine fault hS' ?_
    have hn : nxt (tB M) (tT M) (tS M) = -1 := by
      unfold nxt tS
      rw [if_neg]
      dsimp only
      rw [decide_eq_true (show (M 15 3).toInt = 1 by omega)]
      exact fun h => by cases h.1
    rw [hn]
    omega
  · subst e
    have f1 := le_of (hS'.fa (f := le_ 1 2) (List.mem_cons_self ..))
    refine fault hS' ?_
    have hn : nxt (tB M) (tT M) (tS M) = -1 := by
      unfold nxt tS
      rw [if_neg]
      dsimp only
      exact fun h => by have := h.2; omega
    rw [hn]
    omega
  · subst e
    have b3 := hS'.bd (t := (3, (0, 0))) (List.mem_append_right _ (List.mem_cons_self ..))
    have b4 := hS'.bd (t := (4, (0, 47 + l))) (List.mem_append_right _ (List.mem_cons_of_mem _ (List.mem_cons_self ..)))
    dsimp only at b3 b4
    have f1 := lt_of (hS'.fa (f := lt_ 2 1) (List.mem_cons_self ..))
    refine fault hS' ?_
    rw [hnB (by omega) f1]
    omega
  · subst e
    have b3 := hS'.bd (t := (3, (0, 0))) (List.mem_append_right _ (List.mem_cons_self ..))
    have b4 := hS'.bd (t := (4, (58, 255))) (List.mem_append_right _ (List.mem_cons_of_mem _ (List.mem_cons_self ..)))
    dsimp only at b3 b4
    have f1 := lt_of (hS'.fa (f := lt_ 2 1) (List.mem_cons_self ..))
    refine fault hS' ?_
    rw [hnB (by omega) f1]
    omega
end AVD
-- ---- numbers
def p101 (v i : Option aV) : List (Option aV) := [R_ 15, v, i]
def kv_ (hi : Int) : aKn := (2, [e0, (1, (0, hi))], [], [], [], [], [])
theorem r101_0 : arunG [] [] ([], []) [([(101, 2, p101 none none, [.inl (aco 0), r_ 15])], k1_)] 1 (some (1, 0)) 100 [(101, 0, p101 none none, [])] k1_ = true := by decide +kernel
theorem r101_1 : arunG [] [] ([], []) [([(101, 8, p101 (vi 1) (some (.inl (aco 1))), [])], kv_ 9)] 2 (some (1, 0)) 100 [(101, 5, p101 none none, [.inl (aid 1)])] (kpuh wT (0, 9) k1_) = true := by decide +kernel
/-- one more digit, or none -/
def d101 (i hi : Int) : aCutG := ([(101, 33, p101 (vi 1) (some (.inl (aco i))), [.inl (aco 0), r_ 15, .inl (0, [(1, 10)])])], (6, [e0, (1, (0, hi)), (4, (0, 0)), (5, (48, 57))], [lt_ 3 2], [], [], [], []))
def n101 (i hi : Int) (E : aE) (F : List aL) : aCutG := ([(101, 44, p101 (vi 1) (some (.inl (aco i))), [])], (6, [e0, (1, (0, hi))] ++ E, F, [], [], [], []))
def r101 (i hi : Int) : Bool := arunG [] [] ([], []) [d101 i hi, n101 i hi [(4, (1, 1))] [], n101 i hi [(4, (0, 0))] [le_ 2 3], n101 i hi [(4, (0, 0)), (5, (0, 47))] [lt_ 3 2], n101 i hi [(4, (0, 0)), (5, (58, 255))] [lt_ 3 2]] 6 (some (1, 0)) 200 [(101, 8, p101 (vi 1) (some (.inl (aco i))), [])] (k4c (kv_ hi))
theorem r101_2 : r101 1 9 = true := by decide +kernel
theorem r101_3 : r101 2 99 = true := by decide +kernel
theorem r101_4 : arunG [] [] ([], []) [([(101, 8, p101 (vi 1) (some (.inl (aco 2))), [])], kv_ 99)] 1 (some (1, 0)) 100 [(101, 36, p101 (vi 1) (some (.inl (aco 1))), [.inl (aid 6), .inl (0, [(1, 10)])])] (kpuh wT (0, 9) (d101 1 9).2) = true := by decide +kernel
theorem r101_5 : arunG [] [] ([], []) [([(101, 44, p101 (vi 1) (some (.inl (aco 3))), [])], kv_ 999)] 1 (some (1, 0)) 100 [(101, 36, p101 (vi 1) (some (.inl (aco 2))), [.inl (aid 6), .inl (0, [(1, 10)])])] (kpuh wT (0, 9) (d101 2 99).2) = true := by decide +kernel
theorem r101_6 : arunG [] [] ([], []) [] 1 (some (0, 999)) 100 [(101, 44, p101 (vi 1) (some (.inl (aco 3))), [])] (kv_ 999) = true := by decide +kernel
section AVN
variable {xs : Nat → Int32} {L : Nat}
def n101c (i hi : Int) : List aCutG := [n101 i hi [(4, (1, 1))] [], n101 i hi [(4, (0, 0))] [le_ 2 3], n101 i hi [(4, (0, 0)), (5, (0, 47))] [lt_ 3 2], n101 i hi [(4, (0, 0)), (5, (58, 255))] [lt_ 3 2]]
def n101r (i hi : Int) : Bool := (n101c i hi).all (fun c => arunG [] [] ([], []) [] 1 (some (0, 999)) 100 c.1 c.2)
theorem n101_1 : n101r 1 9 = true := by decide +kernel
theorem n101_2 : n101r 2 99 = true := by decide +kernel
/-- from the loop's head: either a digit more is read, or it ends -/
theorem l101 (hL : L ≤ 2560) {i hi : Int} {M : xM} {ρ : Nat → Int} {cfr : List cFr} {Q : xZ → Prop} (hr : r101 i hi = true) (hr2 : n101r i hi = true) (hM : aInv M) (hk : tOk M) (hend : ¬ (48 ≤ nxt (tB M) (tT M) (tS M) ∧ nxt (tB M) (tT M) (tS M) ≤ 57) → ∀ r, aPost (some (0, 999)) ([], []) M r → Q r) (hmore : (48 ≤ nxt (tB M) (tT M) (tS M) ∧ nxt (tB M) (tT M) (tS M) ≤ 57) → ∀ (ρ' : Nat → Int) (cfr' : List cFr), aHS xs L [] M (d101 i hi).2 ρ' (d101 i hi).1 cfr' → aGl xs L Q M cfr') (hS0 : aHS xs L [] M (kv_ hi) ρ [(101, 8, p101 (vi 1) (some (.inl (aco i))), [])] cfr) : aGl xs L Q M cfr := by
  obtain ⟨ρ2, hS, hag0, hT, hA, hF, hB⟩ := k4c_of hM hk hS0
  have hT : ρ2 2 = tT M := hT
  have hA : ρ2 3 = (M 15 2).toInt := hA
  have hF : ρ2 4 = (M 15 3).toInt := hF
  have hB : ρ2 5 = tB M (M 15 2).toInt.toNat := hB
  unfold r101 at hr
  unfold n101r at hr2
  refine arunG_of (ρ0 := ρ2) (g := 6) (M0 := M) prs0 hL allc0 (fun r h => aPost_no h) ?_ 200 _ _ ρ2 M _ hr hS hM (aUnw.refl _ M) (show 6 ≤ 6 from Nat.le_refl 6) (agr_refl _ _)
  intro c' hc' ρ' M' cfr' hS' hM' hU hag
  have eM := aUnw_nil hU
  subst eM
  have e2 : ρ' 2 = ρ2 2 := hag 2 (by decide)
  have e3 : ρ' 3 = ρ2 3 := hag 3 (by decide)
  have e4 : ρ' 4 = ρ2 4 := hag 4 (by decide)
  have e5 : ρ' 5 = ρ2 5 := hag 5 (by decide)
  have hnB : ρ' 4 = 0 → ρ' 3 < ρ' 2 → nxt (tB M') (tT M') (tS M') = ρ' 5 := fun h3 h2 => by
    unfold nxt tS
    rw [if_pos]
    · dsimp only
      rw [e5, hB]
    · dsimp only
      exact ⟨decide_eq_false (by omega), by omega⟩
  rcases List.mem_cons.mp hc' with e | hc'
  · subst e
    have b4 := hS'.bd (t := (4, (0, 0))) (List.mem_cons_of_mem _ (List.mem_cons_of_mem _ (List.mem_cons_self ..)))
    have b5 := hS'.bd (t := (5, (48, 57))) (List.mem_cons_of_mem _ (List.mem_cons_of_mem _ (List.mem_cons_of_mem _ (List.mem_cons_self ..))))
    dsimp only at b4 b5
    have f1 := lt_of (hS'.fa (f := lt_ 3 2) (List.mem_cons_self ..))
    refine hmore ?_ ρ' cfr' hS'
    rw [hnB (by omega) f1]
    omega
  · have hno : ¬ (48 ≤ nxt (tB M') (tT M') (tS M') ∧ nxt (tB M') (tT M') (tS M') ≤ 57) := by
      have hc'' := hc'
      simp only [List.mem_cons, List.not_mem_nil, or_false] at hc''
      rcases hc'' with e | e | e | e
      · subst e
        have b4 := hS'.bd (t := (4, (1, 1))) (List.mem_append_right _ (List.mem_cons_self ..))
        dsimp only at b4
        have hn : nxt (tB M') (tT M') (tS M') = -1 := by
          unfold nxt tS
          rw [if_neg]
          dsimp only
          rw [decide_eq_true (show (M' 15 3).toInt = 1 by omega)]
          exact fun h => by cases h.1
        rw [hn]
        omega
      · subst e
        have f1 := le_of (hS'.fa (f := le_ 2 3) (List.mem_cons_self ..))
        have hn : nxt (tB M') (tT M') (tS M') = -1 := by
          unfold nxt tS
          rw [if_neg]
          dsimp only
          exact fun h => by have := h.2; omega
        rw [hn]
        omega
      · subst e
        have b4 := hS'.bd (t := (4, (0, 0))) (List.mem_append_right _ (List.mem_cons_self ..))
        have b5 := hS'.bd (t := (5, (0, 47))) (List.mem_append_right _ (List.mem_cons_of_mem _ (List.mem_cons_self ..)))
        dsimp only at b4 b5
        have f1 := lt_of (hS'.fa (f := lt_ 3 2) (List.mem_cons_self ..))
        rw [hnB (by omega) f1]
        omega
      · subst e
        have b4 := hS'.bd (t := (4, (0, 0))) (List.mem_append_right _ (List.mem_cons_self ..))
        have b5 := hS'.bd (t := (5, (58, 255))) (List.mem_append_right _ (List.mem_cons_of_mem _ (List.mem_cons_self ..)))
        dsimp only at b4 b5
        have f1 := lt_of (hS'.fa (f := lt_ 3 2) (List.mem_cons_self ..))
        rw [hnB (by omega) f1]
        omega
    have hrun := List.all_eq_true.mp hr2 c' hc'
    exact arunG_of (ρ0 := ρ') (g := 1) (M0 := M') (cuts := []) prs0 hL allc0 (fun r h => hend hno r h) (fun c hc => by cases hc) 100 _ _ ρ' M' cfr' hrun hS' hM (aUnw.refl _ _) (hS' ρ' (agr_refl _ _)).1.1 (agr_refl _ _)
theorem f101_ (hL : L ≤ 2560) : cOp xs L 101 [.ref 15] (fun b T s => num b T s) (fun v => ∃ d : Int32, v = some (.int d)) := by
  intro M Q hM hR hk hQ
  have fin : ∀ {M2 : xM}, aInv M2 → aRk M2 → tOk M2 → aUnw wT M M2 → tS M2 = num (tB M) (tT M) (tS M) → ∀ r, aPost (some (0, 999)) ([], []) M2 r → Q r := by
    intro M2 hM2 hR2 hk2 hU2 hs r h
    obtain ⟨M3, er, a1, a2, a3, a4⟩ := h
    have eM := aUnw_nil a4
    subst eM
    obtain ⟨rv, r2⟩ := r
    have er : r2 = (102, xsh0, M3) := er
    subst er
    match rv, a3 with
    | some (.int d), _ => exact hQ _ M3 hM2 hR2 hk2 hU2 ⟨d, rfl⟩ hs
  obtain ⟨ρ1, hS0⟩ := aentry (xs := xs) (c := (101, [.inr (.inr 15)], [], none, wT)) (as := [.ref 15]) hL hR ⟨rfl, trivial⟩
  show aGl xs L Q M [(101, 0, xent 101 [.ref 15], [])]
  refine arunG_of (ρ0 := ρ1) (g := 1) (M0 := M) prs0 hL allc0 (fun r h => aPost_no h) ?_ 100 _ _ ρ1 M _ r101_0 hS0 hM (aUnw.refl _ _) (by decide) (agr_refl _ _)
  intro c hc ρ' M' cfr' hS' hM' hU' hag
  have ec := List.mem_singleton.mp hc
  subst ec
  have eM := aUnw_nil hU'
  subst eM
  refine call_ki (z := 100) (as := [r_ 15, .inl (aco 0)]) (rest := []) wT (0, 9) rfl rfl rfl hS' (fun asc R hasc hRR => ?_)
  obtain ⟨v0, vs, g1, h0, hvs⟩ := astkC hasc
  obtain ⟨v1, vs1, g2, h1, hvs1⟩ := astkC hvs
  have e0' := aval_ref h0
  obtain ⟨x, a1, d1⟩ := avalI h1
  have g4 := astkN hvs1
  subst e0'; subst a1; subst g4; subst g2; subst g1
  rw [aev_co] at d1
  refine f100_ hL (Or.inl rfl) r100_0 d1 M' R hM hR hk (fun v M2 hM2 hR2 hk2 hU2 hv hs2 => ?_)
  obtain ⟨d, ed, hd⟩ := hv
  subst ed
  obtain ⟨cfr2, hS2, go2⟩ := hRR d M2 hd hR2 hU2
  refine go2 ?_
  refine arunG_of (ρ0 := apush ρ' 1 d.toInt) (g := 2) (M0 := M2) prs0 hL allc0 (fun r h => aPost_no h) ?_ 100 _ _ _ M2 cfr2 r101_1 hS2 hM2 (aUnw.refl _ _) (by decide) (agr_refl _ _)
  intro c hc ρ3 M3 cfr3 hS3 hM3 hU3 hag3
  have ec := List.mem_singleton.mp hc
  subst ec
  have eM := aUnw_nil hU3
  subst eM
  have hB2 := wT_B hU2
  have hT2 := wT_T hU2
  refine l101 hL r101_2 n101_1 hM2 hk2 (fun hno => fin hM2 hR2 hk2 hU2 ?_) (fun hyes ρ4 cfr4 hS4 => ?_) hS3
  · rw [hs2]
    unfold num
    rw [hB2, hT2, hs2] at hno
    rw [if_neg hno]
  · refine call_ki (z := 100) (as := [r_ 15, .inl (aco 0)]) (rest := [.inl (0, [(1, 10)])]) wT (0, 9) rfl rfl rfl hS4 (fun asc R hasc hRR => ?_)
    obtain ⟨v0, vs, g1, h0, hvs⟩ := astkC hasc
    obtain ⟨v1, vs1, g2, h1, hvs1⟩ := astkC hvs
    have e0' := aval_ref h0
    obtain ⟨x, a1, d1⟩ := avalI h1
    have g4 := astkN hvs1
    subst e0'; subst a1; subst g4; subst g2; subst g1
    rw [aev_co] at d1
    refine f100_ hL (Or.inl rfl) r100_0 d1 M3 R hM2 hR2 hk2 (fun v M5 hM5 hR5 hk5 hU5 hv hs5 => ?_)
    obtain ⟨d, ed, hd⟩ := hv
    subst ed
    obtain ⟨cfr6, hS6, go6⟩ := hRR d M5 hd hR5 hU5
    refine go6 ?_
    refine arunG_of (ρ0 := apush ρ4 6 d.toInt) (g := 1) (M0 := M5) prs0 hL allc0 (fun r h => aPost_no h) ?_ 100 _ _ _ M5 cfr6 r101_4 hS6 hM5 (aUnw.refl _ _) (by decide) (agr_refl _ _)
    intro c hc ρ7 M7 cfr7 hS7 hM7 hU7 hag7
    have ec := List.mem_singleton.mp hc
    subst ec
    have eM := aUnw_nil hU7
    subst eM
    have hU57 : aUnw wT M' M7 := hU2.trans hU5
    have hB5 := wT_B hU57
    have hT5 := wT_T hU57
    have hB5' := wT_B hU5
    have hT5' := wT_T hU5
    have hnum : num (tB M') (tT M') (tS M') = nu1 (tB M') (tT M') (tS M7) := by
      unfold num
      rw [hB2, hT2, hs2] at hyes
      rw [if_pos hyes, hs5, hB2, hT2, hs2]
    refine l101 hL r101_3 n101_2 hM5 hk5 (fun hno => fin hM5 hR5 hk5 hU57 ?_) (fun hyes2 ρ8 cfr8 hS8 => ?_) hS7
    · rw [hnum]
      unfold nu1
      rw [hB5, hT5] at hno
      rw [if_neg hno]
    · refine call_ki (z := 100) (as := [r_ 15, .inl (aco 0)]) (rest := [.inl (0, [(1, 10)])]) wT (0, 9) rfl rfl rfl hS8 (fun asc R hasc hRR => ?_)
      obtain ⟨v0, vs, g1, h0, hvs⟩ := astkC hasc
      obtain ⟨v1, vs1, g2, h1, hvs1⟩ := astkC hvs
      have e0' := aval_ref h0
      obtain ⟨x, a1, d1⟩ := avalI h1
      have g4 := astkN hvs1
      subst e0'; subst a1; subst g4; subst g2; subst g1
      rw [aev_co] at d1
      refine f100_ hL (Or.inl rfl) r100_0 d1 M7 R hM5 hR5 hk5 (fun v M9 hM9 hR9 hk9 hU9 hv hs9 => ?_)
      obtain ⟨d, ed, hd⟩ := hv
      subst ed
      obtain ⟨cfr10, hS10, go10⟩ := hRR d M9 hd hR9 hU9
      refine go10 ?_
      refine arunG_of (ρ0 := apush ρ8 6 d.toInt) (g := 1) (M0 := M9) prs0 hL allc0 (fun r h => aPost_no h) ?_ 100 _ _ _ M9 cfr10 r101_5 hS10 hM9 (aUnw.refl _ _) (by decide) (agr_refl _ _)
      intro c hc ρ11 M11 cfr11 hS11 hM11 hU11 hag11
      have ec := List.mem_singleton.mp hc
      subst ec
      have eM := aUnw_nil hU11
      subst eM
      have hs : tS M11 = num (tB M') (tT M') (tS M') := by
        rw [hnum]
        unfold nu1
        rw [hB5, hT5] at hyes2
        rw [if_pos hyes2, hs9, hB5, hT5]
      exact arunG_of (ρ0 := ρ11) (g := 1) (M0 := M11) (cuts := []) prs0 hL allc0 (fun r h => fin hM9 hR9 hk9 (hU57.trans hU9) hs r h) (fun c hc => by cases hc) 100 _ _ ρ11 M11 cfr11 r101_6 hS11 hM9 (aUnw.refl _ _) (by decide) (agr_refl _ _)
end AVN
