/-! BY HAND: bargain and breaks, of class and reference -/
theorem aPost_val {M : xM} {v : Int32} {r : xZ} {Q : xZ → Prop} (h : aPost (some (v.toInt, v.toInt)) ([], []) M r) (hq : Q (some (.int v), 102, xsh0, M)) : Q r := by
  obtain ⟨M', er, -, -, hres, hU⟩ := h
  obtain ⟨rv, r2⟩ := r
  have eM := aUnw_nil hU
  subst eM
  have er : r2 = (102, xsh0, M') := er
  subst er
  match rv, hres with
  | some (.int x), hres =>
    have hx : v.toInt ≤ x.toInt ∧ x.toInt ≤ v.toInt := hres
    have : x = v := Int32.toInt_inj.mp (by omega)
    subst this
    exact hq
theorem apush_in {ρ : Nat → Int} {n : Nat} {z lo hi : Int} (h : lo ≤ z ∧ z ≤ hi) : lo ≤ apush ρ n z n ∧ apush ρ n z n ≤ hi := by
  rw [apush_self]
  exact h
theorem brk_b {f st wt : Nat → Int32} {o : Nat} : ∀ (n k : Nat), k + n ≤ 12 → (brk f st wt o n k).toInt = -1 ∨ (0 ≤ (brk f st wt o n k).toInt ∧ (brk f st wt o n k).toInt ≤ 11)
  | 0, k, _ => Or.inl rfl
  | n + 1, k, h => by
    rw [brk]
    split
    · right
      rw [i32_ofNat (by omega)]
      omega
    · exact brk_b n (k + 1) (by omega)
def kEb (l : aE) (K : aKn) : aKn := (K.1, l ++ K.2.1, K.2.2)
theorem kEb_of {xs : Nat → Int32} {L : Nat} {M : xM} {K : aKn} {ρ : Nat → Int} {fr : List aFr} {cfr : List cFr} {k : Nat} {lo hi : Int} (hS : aHS xs L [] M K ρ fr cfr) (hk : k < K.1) (h : lo ≤ ρ k ∧ ρ k ≤ hi) : aHS xs L [] M (kEb [(k, (lo, hi))] K) ρ fr cfr := aHS_E (E := [(k, (lo, hi))]) hS (fun ρ'' hh t ht => by
  have et := List.mem_singleton.mp ht
  subst et
  show lo ≤ ρ'' k ∧ ρ'' k ≤ hi
  rw [hh k hk]
  exact h)
def barR (w : Bool) (b what : Int32) : Int32 := if what = 0 then b2i w else b2i (w && decide (b = -1))
def brsR (w : Bool) (b : Int32) : Int32 := if w then b else -1
def fb128 (pc : Nat) (st : List aV) : List aFr := [(128, pc, [R_ 0, vi 1, vi 2, none], st)]
def nb128 : List aCutG := [(fb128 20 [], (3, [e0, (1, (-2147483648, -1))], [], [], [], [], [])), (fb128 20 [], (4, [e0], [le_ 3 1], [((47, aco 3), aid 3)], [], [], [])), (fb128 20 [], (3, [e0, (2, (-2147483648, -1))], [], [], [], [], [])), (fb128 20 [], (3, [e0, (2, (2, 2147483647))], [], [], [], [], []))]
def sb128 : aCutG := (fb128 27 [.inl (aid 1), r_ 47], (4, [e0, (1, (0, 11)), (2, (0, 1))], [lt_ 1 3], [((47, aco 3), aid 3)], [], [], []))
def ct_128e : aCt := (128, [.inr (.inr 0), .inl aFull, .inl aFull], [], some aFull, ([], []))
def kc128 : aKn := (4, [e0, (1, (0, 11)), (2, (1, 1))], [], [], [], [], [])
theorem b128_0 : arunG [] [] ([], []) (nb128 ++ [sb128]) 3 (some (1, 0)) 100 [(128, 0, axent 128 (aen ct_128e.2.1 1 [(0, (0, 2560))]).1, [])] (aK0 ct_128e) = true := by decide +kernel
theorem b128_1 : arunG [] [] ([], []) [] 1 (some ((0 : Int32).toInt, (0 : Int32).toInt)) 100 (fb128 30 [.inl (aid 4)]) (kEb [(4, (0, 0))] (kpush sb128.2)) = true := by decide +kernel
theorem b128_2 : arunG [] [] ([], []) [] 1 (some ((1 : Int32).toInt, (1 : Int32).toInt)) 100 (fb128 30 [.inl (aid 4)]) (kEb [(2, (0, 0))] (kEb [(4, (1, 1))] (kpush sb128.2))) = true := by decide +kernel
theorem b128_3 : arunG [] [] ([], []) [(fb128 48 [.inl (aid 1), r_ 47], kc128)] 3 (some (1, 0)) 100 (fb128 30 [.inl (aid 4)]) (kEb [(2, (1, 1))] (kEb [(4, (1, 1))] (kpush sb128.2))) = true := by decide +kernel
theorem b128_4 : arunG [] [] ([], []) [] 1 (some ((1 : Int32).toInt, (1 : Int32).toInt)) 100 (fb128 51 [.inl (aid 4)]) (kEb [(4, (-1, -1))] (kpush kc128)) = true := by decide +kernel
theorem b128_5 : arunG [] [] ([], []) [] 1 (some ((0 : Int32).toInt, (0 : Int32).toInt)) 100 (fb128 51 [.inl (aid 4)]) (kEb [(4, (0, 11))] (kpush kc128)) = true := by decide +kernel
def in128 (M : xM) (a what : Int32) : Prop := 0 ≤ a.toInt ∧ a.toInt < (M 47 3).toInt ∧ 0 ≤ what.toInt ∧ what.toInt ≤ 1
set_option maxRecDepth 100000 in
theorem f128 {xs : Nat → Int32} {L : Nat} {M : xM} {Q : xZ → Prop} {a what : Int32} (hL : L ≤ 2560) (hM : aInv M) (hR : aRk M) (hN : ¬ in128 M a what → Q (some (.int (-1)), 102, xsh0, M)) (hG : in128 M a what → Q (some (.int (barR (winF (M 48) (M 49) a.toInt.toNat) (brk (M 48) (M 49) (M 50) a.toInt.toNat (M 47 3).toInt.toNat 0) what)), 102, xsh0, M)) : PL xs L 128 (0, xent 128 [.ref 0, .int a, .int what], [], 102, xsh0, M) Q := by
  obtain ⟨ρ2, hS⟩ := aentry (xs := xs) (c := ct_128e) (as := [.ref 0, .int a, .int what]) hL hR ⟨rfl, aFull_of a, aFull_of what, trivial⟩
  have hl : aloc ρ2 [R_ 0, vi 1, vi 2, none] [some (.ref 0), some (.int a), some (.int what), none] := (hS ρ2 (agr_refl _ _)).2.1.2.2.1
  have hs1 : a.toInt = ρ2 1 := (show a.toInt = aev ρ2 (aid 1) from hl.2.1).trans aev_id
  have hs2 : what.toInt = ρ2 2 := (show what.toInt = aev ρ2 (aid 2) from hl.2.2.1).trans aev_id
  have hsz := hM.1.2 47 3 (0, 12) rfl
  dsimp only at hsz
  show aGl xs L Q M [(128, 0, xent 128 [.ref 0, .int a, .int what], [])]
  refine arunG_of (ρ0 := ρ2) (g := 3) (M0 := M) prs0 hL allc0 (fun r h => aPost_no h) ?_ 100 _ _ ρ2 M _ b128_0 hS hM (aUnw.refl _ M) (by decide) (agr_refl _ _)
  intro c hc ρ' M' cfr' hS' hM' hU hag
  have eM : M' = M := aUnw_nil hU
  subst eM
  have e1 : ρ' 1 = a.toInt := (hag 1 (by decide)).trans hs1.symm
  have e2 : ρ' 2 = what.toInt := (hag 2 (by decide)).trans hs2.symm
  rcases List.mem_append.mp hc with hc | hc
  · have hno : ¬ in128 M' a what ∧ c.1 = fb128 20 [] := by
      unfold nb128 at hc
      simp only [List.mem_cons, List.not_mem_nil, or_false] at hc
      rcases hc with e | e | e | e
      · subst e
        have := hS'.bd (t := (1, (-2147483648, -1))) (by decide)
        dsimp only at this
        exact ⟨fun h => by have := h.1; omega, rfl⟩
      · subst e
        have f1 := le_of (hS'.fa (f := le_ 3 1) (List.mem_cons_self ..))
        have c1 := cell_f (p := 47) (b := 3) (k := 3) hS' (List.mem_cons_self ..)
        exact ⟨fun h => by have := h.2.1; omega, rfl⟩
      · subst e
        have := hS'.bd (t := (2, (-2147483648, -1))) (by decide)
        dsimp only at this
        exact ⟨fun h => by have := h.2.2.1; omega, rfl⟩
      · subst e
        have := hS'.bd (t := (2, (2, 2147483647))) (by decide)
        dsimp only at this
        exact ⟨fun h => by have := h.2.2.2; omega, rfl⟩
    have hk := (hS' ρ' (agr_refl _ _)).2
    rw [hno.2] at hk
    obtain ⟨plc, skc, mm, e, hl, hst, hnl⟩ := afrs_cons hk
    have e4 := afrs_nil hnl
    have f3 := astkN hst
    subst e4; subst f3
    rw [e]
    show PL xs L 128 (20, plc, [], 102, xsh0, M') Q
    refine PL.go (k := 1) (s' := (21, plc, [.int (-1)], 102, xsh0, M')) rfl ?_
    exact PL.ret (v := some (.int (-1))) rfl (hN hno.1)
  · have ec := List.mem_singleton.mp hc
    subst ec
    have b1 := hS'.bd (t := (1, (0, 11))) (by decide)
    have b2 := hS'.bd (t := (2, (0, 1))) (by decide)
    dsimp only at b1 b2
    have f1 := lt_of (hS'.fa (f := lt_ 1 3) (List.mem_cons_self ..))
    have c1 := cell_f (p := 47) (b := 3) (k := 3) hS' (List.mem_cons_self ..)
    have hin : in128 M' a what := ⟨by omega, by omega, by omega, by omega⟩
    have hq := hG hin
    refine call_cut (z := 13) (as := [r_ 47, .inl (aid 1)]) (rest := []) rfl rfl (by decide) hS' (fun asc R hasc hRR => ?_)
    obtain ⟨x, ex, dx⟩ := args1 hasc
    subst ex
    have hx : x = a := Int32.toInt_inj.mp (by omega)
    subst hx
    refine f13 (by omega) (by omega) ?_
    obtain ⟨cfr2, hS2, go2⟩ := hRR (b2i (winF (M' 48) (M' 49) x.toInt.toNat)) M' hR
    refine go2 ?_
    cases hw : winF (M' 48) (M' 49) x.toInt.toNat with
    | false =>
      rw [hw] at hS2 hq
      have hv : barR false (brk (M' 48) (M' 49) (M' 50) x.toInt.toNat (M' 47 3).toInt.toNat 0) what = 0 := by
        unfold barR
        split <;> rfl
      rw [hv] at hq
      exact arunG_of (ρ0 := apush ρ' 4 (b2i false).toInt) (g := 1) (M0 := M') (cuts := []) prs0 hL allc0 (fun r h => aPost_val h hq) (fun c hc => by cases hc) 100 _ _ _ M' cfr2 b128_1 (kEb_of (k := 4) (lo := 0) (hi := 0) hS2 (by decide) (apush_in (by decide))) hM (aUnw.refl _ _) (by decide) (agr_refl _ _)
    | true =>
      rw [hw] at hS2 hq
      have hS3 := kEb_of (k := 4) (lo := 1) (hi := 1) hS2 (by decide) (apush_in (by decide))
      have p2 : apush ρ' 4 (b2i true).toInt 2 = what.toInt := (show apush ρ' 4 (b2i true).toInt 2 = ρ' 2 from if_neg (by decide)).trans e2
      have p1 : apush ρ' 4 (b2i true).toInt 1 = x.toInt := (show apush ρ' 4 (b2i true).toInt 1 = ρ' 1 from if_neg (by decide)).trans e1
      by_cases h0 : what = 0
      · have hv : barR true (brk (M' 48) (M' 49) (M' 50) x.toInt.toNat (M' 47 3).toInt.toNat 0) what = 1 := by
          unfold barR
          rw [if_pos h0]
          rfl
        rw [hv] at hq
        have h00 : what.toInt = 0 := by rw [h0]; rfl
        exact arunG_of (ρ0 := apush ρ' 4 (b2i true).toInt) (g := 1) (M0 := M') (cuts := []) prs0 hL allc0 (fun r h => aPost_val h hq) (fun c hc => by cases hc) 100 _ _ _ M' cfr2 b128_2 (kEb_of (k := 2) (lo := 0) (hi := 0) hS3 (by decide) (show 0 ≤ apush ρ' 4 (b2i true).toInt 2 ∧ apush ρ' 4 (b2i true).toInt 2 ≤ 0 by rw [p2]; omega)) hM (aUnw.refl _ _) (by decide) (agr_refl _ _)
      · have h01 : what.toInt = 1 := by
          have : what.toInt ≠ 0 := fun z => h0 (Int32.toInt_inj.mp z)
          omega
        refine arunG_of (ρ0 := apush ρ' 4 (b2i true).toInt) (g := 3) (M0 := M') prs0 hL allc0 (fun r h => aPost_no h) ?_ 100 _ _ _ M' cfr2 b128_3 (kEb_of (k := 2) (lo := 1) (hi := 1) hS3 (by decide) (show 1 ≤ apush ρ' 4 (b2i true).toInt 2 ∧ apush ρ' 4 (b2i true).toInt 2 ≤ 1 by rw [p2]; omega)) hM (aUnw.refl _ _) (by decide) (agr_refl _ _)
        intro c hc ρ5 M5 cfr5 hS5 hM5 hU5 hag5
        have ec := List.mem_singleton.mp hc
        subst ec
        have eM := aUnw_nil hU5
        subst eM
        have v1 : ρ5 1 = x.toInt := (hag5 1 (by decide)).trans p1
        refine call_cut (z := 14) (as := [r_ 47, .inl (aid 1)]) (rest := []) rfl rfl (by decide) hS5 (fun asc R hasc hRR => ?_)
        obtain ⟨x2, ex2, dx2⟩ := args1 hasc
        subst ex2
        have hx2 : x2 = x := Int32.toInt_inj.mp (by omega)
        subst hx2
        refine f14_ hL hM5 hR (by omega) ?_
        obtain ⟨cfr6, hS6, go6⟩ := hRR (brk (M5 48) (M5 49) (M5 50) x2.toInt.toNat (M5 47 3).toInt.toNat 0) M5 hR
        refine go6 ?_
        have hbb := brk_b (f := M5 48) (st := M5 49) (wt := M5 50) (o := x2.toInt.toNat) (M5 47 3).toInt.toNat 0 (by omega)
        generalize brk (M5 48) (M5 49) (M5 50) x2.toInt.toNat (M5 47 3).toInt.toNat 0 = bb at hq hS6 hbb
        have p4 : apush ρ5 kc128.1 bb.toInt 4 = bb.toInt := if_pos rfl
        rcases hbb with hb | hb
        · have hv : barR true bb what = 1 := by
            unfold barR
            rw [if_neg h0, decide_eq_true (Int32.toInt_inj.mp hb)]
            rfl
          rw [hv] at hq
          exact arunG_of (ρ0 := apush ρ5 4 bb.toInt) (g := 1) (M0 := M5) (cuts := []) prs0 hL allc0 (fun r h => aPost_val h hq) (fun c hc => by cases hc) 100 _ _ _ M5 cfr6 b128_4 (kEb_of (k := 4) (lo := -1) (hi := -1) hS6 (by decide) (apush_in (by omega))) hM (aUnw.refl _ _) (by decide) (agr_refl _ _)
        · have hne : ¬ bb = -1 := fun z => by
            rw [z] at hb
            exact absurd hb.1 (by decide)
          have hv : barR true bb what = 0 := by
            unfold barR
            rw [if_neg h0, decide_eq_false hne]
            rfl
          rw [hv] at hq
          exact arunG_of (ρ0 := apush ρ5 4 bb.toInt) (g := 1) (M0 := M5) (cuts := []) prs0 hL allc0 (fun r h => aPost_val h hq) (fun c hc => by cases hc) 100 _ _ _ M5 cfr6 b128_5 (kEb_of (k := 4) (lo := 0) (hi := 11) hS6 (by decide) (apush_in (by omega))) hM (aUnw.refl _ _) (by decide) (agr_refl _ _)
def fb212 (pc : Nat) (st : List aV) : List aFr := [(212, pc, [R_ 56, vi 1, vi 2], st)]
def nb212 : List aCutG := [(fb212 18 [], (3, [e0, (1, (-2147483648, -1))], [], [], [], [], [])), (fb212 18 [], (4, [e0], [le_ 3 1], [((56, aco 52), aid 3)], [], [], [])), (fb212 18 [], (3, [e0, (2, (-2147483648, -1))], [], [], [], [], [])), (fb212 18 [], (3, [e0, (2, (2, 2147483647))], [], [], [], [], []))]
def sb212 : aCutG := (fb212 22 [.inl (aid 1), r_ 56], (4, [e0, (1, (0, 11)), (2, (0, 1))], [lt_ 1 3], [((56, aco 52), aid 3)], [], [], []))
def ct_212e : aCt := (212, [.inr (.inr 56), .inl aFull, .inl aFull], [], some aFull, ([], []))
def kc212 : aKn := (4, [e0, (1, (0, 11)), (2, (1, 1))], [], [], [], [], [])
theorem b212_0 : arunG [] [] ([], []) (nb212 ++ [sb212]) 3 (some (1, 0)) 100 [(212, 0, axent 212 (aen ct_212e.2.1 1 [(0, (0, 2560))]).1, [])] (aK0 ct_212e) = true := by decide +kernel
theorem b212_1 : arunG [] [] ([], []) [] 1 (some ((0 : Int32).toInt, (0 : Int32).toInt)) 100 (fb212 25 [.inl (aid 4)]) (kEb [(4, (0, 0))] (kpush sb212.2)) = true := by decide +kernel
theorem b212_2 : arunG [] [] ([], []) [] 1 (some ((1 : Int32).toInt, (1 : Int32).toInt)) 100 (fb212 25 [.inl (aid 4)]) (kEb [(2, (0, 0))] (kEb [(4, (1, 1))] (kpush sb212.2))) = true := by decide +kernel
theorem b212_3 : arunG [] [] ([], []) [(fb212 34 [.inl (aid 1), r_ 56], kc212)] 3 (some (1, 0)) 100 (fb212 25 [.inl (aid 4)]) (kEb [(2, (1, 1))] (kEb [(4, (1, 1))] (kpush sb212.2))) = true := by decide +kernel
theorem b212_4 : arunG [] [] ([], []) [] 1 (some ((1 : Int32).toInt, (1 : Int32).toInt)) 100 (fb212 37 [.inl (aid 4)]) (kEb [(4, (-1, -1))] (kpush kc212)) = true := by decide +kernel
theorem b212_5 : arunG [] [] ([], []) [] 1 (some ((0 : Int32).toInt, (0 : Int32).toInt)) 100 (fb212 37 [.inl (aid 4)]) (kEb [(4, (0, 11))] (kpush kc212)) = true := by decide +kernel
def in212 (M : xM) (a what : Int32) : Prop := 0 ≤ a.toInt ∧ a.toInt < (M 56 52).toInt ∧ 0 ≤ what.toInt ∧ what.toInt ≤ 1
set_option maxRecDepth 100000 in
theorem f212 {xs : Nat → Int32} {L : Nat} {M : xM} {Q : xZ → Prop} {a what : Int32} (hL : L ≤ 2560) (hM : aInv M) (hR : aRk M) (hN : ¬ in212 M a what → Q (some (.int (-1)), 102, xsh0, M)) (hG : in212 M a what → Q (some (.int (barR (winF (M 96) (M 97) a.toInt.toNat) (brk (M 96) (M 97) (M 98) a.toInt.toNat (M 56 52).toInt.toNat 0) what)), 102, xsh0, M)) : PL xs L 212 (0, xent 212 [.ref 56, .int a, .int what], [], 102, xsh0, M) Q := by
  obtain ⟨ρ2, hS⟩ := aentry (xs := xs) (c := ct_212e) (as := [.ref 56, .int a, .int what]) hL hR ⟨rfl, aFull_of a, aFull_of what, trivial⟩
  have hl : aloc ρ2 [R_ 56, vi 1, vi 2] [some (.ref 56), some (.int a), some (.int what)] := (hS ρ2 (agr_refl _ _)).2.1.2.2.1
  have hs1 : a.toInt = ρ2 1 := (show a.toInt = aev ρ2 (aid 1) from hl.2.1).trans aev_id
  have hs2 : what.toInt = ρ2 2 := (show what.toInt = aev ρ2 (aid 2) from hl.2.2.1).trans aev_id
  have hsz := hM.1.2 56 52 (0, 12) rfl
  dsimp only at hsz
  show aGl xs L Q M [(212, 0, xent 212 [.ref 56, .int a, .int what], [])]
  refine arunG_of (ρ0 := ρ2) (g := 3) (M0 := M) prs0 hL allc0 (fun r h => aPost_no h) ?_ 100 _ _ ρ2 M _ b212_0 hS hM (aUnw.refl _ M) (by decide) (agr_refl _ _)
  intro c hc ρ' M' cfr' hS' hM' hU hag
  have eM : M' = M := aUnw_nil hU
  subst eM
  have e1 : ρ' 1 = a.toInt := (hag 1 (by decide)).trans hs1.symm
  have e2 : ρ' 2 = what.toInt := (hag 2 (by decide)).trans hs2.symm
  rcases List.mem_append.mp hc with hc | hc
  · have hno : ¬ in212 M' a what ∧ c.1 = fb212 18 [] := by
      unfold nb212 at hc
      simp only [List.mem_cons, List.not_mem_nil, or_false] at hc
      rcases hc with e | e | e | e
      · subst e
        have := hS'.bd (t := (1, (-2147483648, -1))) (by decide)
        dsimp only at this
        exact ⟨fun h => by have := h.1; omega, rfl⟩
      · subst e
        have f1 := le_of (hS'.fa (f := le_ 3 1) (List.mem_cons_self ..))
        have c1 := cell_f (p := 56) (b := 52) (k := 3) hS' (List.mem_cons_self ..)
        exact ⟨fun h => by have := h.2.1; omega, rfl⟩
      · subst e
        have := hS'.bd (t := (2, (-2147483648, -1))) (by decide)
        dsimp only at this
        exact ⟨fun h => by have := h.2.2.1; omega, rfl⟩
      · subst e
        have := hS'.bd (t := (2, (2, 2147483647))) (by decide)
        dsimp only at this
        exact ⟨fun h => by have := h.2.2.2; omega, rfl⟩
    have hk := (hS' ρ' (agr_refl _ _)).2
    rw [hno.2] at hk
    obtain ⟨plc, skc, mm, e, hl, hst, hnl⟩ := afrs_cons hk
    have e4 := afrs_nil hnl
    have f3 := astkN hst
    subst e4; subst f3
    rw [e]
    show PL xs L 212 (18, plc, [], 102, xsh0, M') Q
    refine PL.go (k := 1) (s' := (19, plc, [.int (-1)], 102, xsh0, M')) rfl ?_
    exact PL.ret (v := some (.int (-1))) rfl (hN hno.1)
  · have ec := List.mem_singleton.mp hc
    subst ec
    have b1 := hS'.bd (t := (1, (0, 11))) (by decide)
    have b2 := hS'.bd (t := (2, (0, 1))) (by decide)
    dsimp only at b1 b2
    have f1 := lt_of (hS'.fa (f := lt_ 1 3) (List.mem_cons_self ..))
    have c1 := cell_f (p := 56) (b := 52) (k := 3) hS' (List.mem_cons_self ..)
    have hin : in212 M' a what := ⟨by omega, by omega, by omega, by omega⟩
    have hq := hG hin
    refine call_cut (z := 210) (as := [r_ 56, .inl (aid 1)]) (rest := []) rfl rfl (by decide) hS' (fun asc R hasc hRR => ?_)
    obtain ⟨x, ex, dx⟩ := args1 hasc
    subst ex
    have hx : x = a := Int32.toInt_inj.mp (by omega)
    subst hx
    refine f210 (by omega) (by omega) ?_
    obtain ⟨cfr2, hS2, go2⟩ := hRR (b2i (winF (M' 96) (M' 97) x.toInt.toNat)) M' hR
    refine go2 ?_
    cases hw : winF (M' 96) (M' 97) x.toInt.toNat with
    | false =>
      rw [hw] at hS2 hq
      have hv : barR false (brk (M' 96) (M' 97) (M' 98) x.toInt.toNat (M' 56 52).toInt.toNat 0) what = 0 := by
        unfold barR
        split <;> rfl
      rw [hv] at hq
      exact arunG_of (ρ0 := apush ρ' 4 (b2i false).toInt) (g := 1) (M0 := M') (cuts := []) prs0 hL allc0 (fun r h => aPost_val h hq) (fun c hc => by cases hc) 100 _ _ _ M' cfr2 b212_1 (kEb_of (k := 4) (lo := 0) (hi := 0) hS2 (by decide) (apush_in (by decide))) hM (aUnw.refl _ _) (by decide) (agr_refl _ _)
    | true =>
      rw [hw] at hS2 hq
      have hS3 := kEb_of (k := 4) (lo := 1) (hi := 1) hS2 (by decide) (apush_in (by decide))
      have p2 : apush ρ' 4 (b2i true).toInt 2 = what.toInt := (show apush ρ' 4 (b2i true).toInt 2 = ρ' 2 from if_neg (by decide)).trans e2
      have p1 : apush ρ' 4 (b2i true).toInt 1 = x.toInt := (show apush ρ' 4 (b2i true).toInt 1 = ρ' 1 from if_neg (by decide)).trans e1
      by_cases h0 : what = 0
      · have hv : barR true (brk (M' 96) (M' 97) (M' 98) x.toInt.toNat (M' 56 52).toInt.toNat 0) what = 1 := by
          unfold barR
          rw [if_pos h0]
          rfl
        rw [hv] at hq
        have h00 : what.toInt = 0 := by rw [h0]; rfl
        exact arunG_of (ρ0 := apush ρ' 4 (b2i true).toInt) (g := 1) (M0 := M') (cuts := []) prs0 hL allc0 (fun r h => aPost_val h hq) (fun c hc => by cases hc) 100 _ _ _ M' cfr2 b212_2 (kEb_of (k := 2) (lo := 0) (hi := 0) hS3 (by decide) (show 0 ≤ apush ρ' 4 (b2i true).toInt 2 ∧ apush ρ' 4 (b2i true).toInt 2 ≤ 0 by rw [p2]; omega)) hM (aUnw.refl _ _) (by decide) (agr_refl _ _)
      · have h01 : what.toInt = 1 := by
          have : what.toInt ≠ 0 := fun z => h0 (Int32.toInt_inj.mp z)
          omega
        refine arunG_of (ρ0 := apush ρ' 4 (b2i true).toInt) (g := 3) (M0 := M') prs0 hL allc0 (fun r h => aPost_no h) ?_ 100 _ _ _ M' cfr2 b212_3 (kEb_of (k := 2) (lo := 1) (hi := 1) hS3 (by decide) (show 1 ≤ apush ρ' 4 (b2i true).toInt 2 ∧ apush ρ' 4 (b2i true).toInt 2 ≤ 1 by rw [p2]; omega)) hM (aUnw.refl _ _) (by decide) (agr_refl _ _)
        intro c hc ρ5 M5 cfr5 hS5 hM5 hU5 hag5
        have ec := List.mem_singleton.mp hc
        subst ec
        have eM := aUnw_nil hU5
        subst eM
        have v1 : ρ5 1 = x.toInt := (hag5 1 (by decide)).trans p1
        refine call_cut (z := 211) (as := [r_ 56, .inl (aid 1)]) (rest := []) rfl rfl (by decide) hS5 (fun asc R hasc hRR => ?_)
        obtain ⟨x2, ex2, dx2⟩ := args1 hasc
        subst ex2
        have hx2 : x2 = x := Int32.toInt_inj.mp (by omega)
        subst hx2
        refine f211_ hL hM5 hR (by omega) ?_
        obtain ⟨cfr6, hS6, go6⟩ := hRR (brk (M5 96) (M5 97) (M5 98) x2.toInt.toNat (M5 56 52).toInt.toNat 0) M5 hR
        refine go6 ?_
        have hbb := brk_b (f := M5 96) (st := M5 97) (wt := M5 98) (o := x2.toInt.toNat) (M5 56 52).toInt.toNat 0 (by omega)
        generalize brk (M5 96) (M5 97) (M5 98) x2.toInt.toNat (M5 56 52).toInt.toNat 0 = bb at hq hS6 hbb
        have p4 : apush ρ5 kc212.1 bb.toInt 4 = bb.toInt := if_pos rfl
        rcases hbb with hb | hb
        · have hv : barR true bb what = 1 := by
            unfold barR
            rw [if_neg h0, decide_eq_true (Int32.toInt_inj.mp hb)]
            rfl
          rw [hv] at hq
          exact arunG_of (ρ0 := apush ρ5 4 bb.toInt) (g := 1) (M0 := M5) (cuts := []) prs0 hL allc0 (fun r h => aPost_val h hq) (fun c hc => by cases hc) 100 _ _ _ M5 cfr6 b212_4 (kEb_of (k := 4) (lo := -1) (hi := -1) hS6 (by decide) (apush_in (by omega))) hM (aUnw.refl _ _) (by decide) (agr_refl _ _)
        · have hne : ¬ bb = -1 := fun z => by
            rw [z] at hb
            exact absurd hb.1 (by decide)
          have hv : barR true bb what = 0 := by
            unfold barR
            rw [if_neg h0, decide_eq_false hne]
            rfl
          rw [hv] at hq
          exact arunG_of (ρ0 := apush ρ5 4 bb.toInt) (g := 1) (M0 := M5) (cuts := []) prs0 hL allc0 (fun r h => aPost_val h hq) (fun c hc => by cases hc) 100 _ _ _ M5 cfr6 b212_5 (kEb_of (k := 4) (lo := 0) (hi := 11) hS6 (by decide) (apush_in (by omega))) hM (aUnw.refl _ _) (by decide) (agr_refl _ _)
def fb129 (pc : Nat) (st : List aV) : List aFr := [(129, pc, [R_ 0, vi 1], st)]
def sb129 : aCutG := (fb129 16 [.inl (aid 1), r_ 47], (3, [e0, (1, (0, 11))], [lt_ 1 2], [((47, aco 3), aid 2)], [], [], []))
def ct_129e : aCt := (129, [.inr (.inr 0), .inl aFull], [], some aFull, ([], []))
def kc129 : aKn := (3, [e0, (1, (0, 11))], [], [], [], [], [])
theorem b129_0 : arunG [] [] ([], []) (n105 129 33 47 3 0 ++ [sb129]) 2 (some (1, 0)) 100 [(129, 0, axent 129 (aen ct_129e.2.1 1 [(0, (0, 2560))]).1, [])] (aK0 ct_129e) = true := by decide +kernel
theorem b129_1 : arunG [] [] ([], []) [] 1 (some ((-1 : Int32).toInt, (-1 : Int32).toInt)) 100 (fb129 19 [.inl (aid 3)]) (kEb [(3, (0, 0))] (kpush sb129.2)) = true := by decide +kernel
theorem b129_2 : arunG [] [] ([], []) [(fb129 27 [.inl (aid 1), r_ 47], kc129)] 2 (some (1, 0)) 100 (fb129 19 [.inl (aid 3)]) (kEb [(3, (1, 1))] (kpush sb129.2)) = true := by decide +kernel
theorem b129_3 : arunG [] [] ([], []) [(fb129 34 [.inl (aid 3)], (4, [e0], [], [], [], [], []))] 4 (some (1, 0)) 100 (fb129 30 [.inl (aid 3)]) (kpush kc129) = true := by decide +kernel
set_option maxRecDepth 100000 in
theorem f129 {xs : Nat → Int32} {L : Nat} {M : xM} {Q : xZ → Prop} {a : Int32} (hL : L ≤ 2560) (hM : aInv M) (hR : aRk M) (hN : ¬ (0 ≤ a.toInt ∧ a.toInt < (M 47 3).toInt) → Q (some (.int (-1)), 102, xsh0, M)) (hG : 0 ≤ a.toInt ∧ a.toInt < (M 47 3).toInt → Q (some (.int (brsR (winF (M 48) (M 49) a.toInt.toNat) (brk (M 48) (M 49) (M 50) a.toInt.toNat (M 47 3).toInt.toNat 0))), 102, xsh0, M)) : PL xs L 129 (0, xent 129 [.ref 0, .int a], [], 102, xsh0, M) Q := by
  obtain ⟨ρ2, hS⟩ := aentry (xs := xs) (c := ct_129e) (as := [.ref 0, .int a]) hL hR ⟨rfl, aFull_of a, trivial⟩
  have hl : aloc ρ2 [R_ 0, vi 1] [some (.ref 0), some (.int a)] := (hS ρ2 (agr_refl _ _)).2.1.2.2.1
  have hs1 : a.toInt = ρ2 1 := (show a.toInt = aev ρ2 (aid 1) from hl.2.1).trans aev_id
  show aGl xs L Q M [(129, 0, xent 129 [.ref 0, .int a], [])]
  refine arunG_of (ρ0 := ρ2) (g := 2) (M0 := M) prs0 hL allc0 (fun r h => aPost_no h) ?_ 100 _ _ ρ2 M _ b129_0 hS hM (aUnw.refl _ M) (by decide) (agr_refl _ _)
  intro c hc ρ' M' cfr' hS' hM' hU hag
  have eM : M' = M := aUnw_nil hU
  subst eM
  have e1 : ρ' 1 = a.toInt := (hag 1 (by decide)).trans hs1.symm
  rcases List.mem_append.mp hc with hc | hc
  · obtain ⟨hno, hfr⟩ := n105_of hc hS' e1
    have hk := (hS' ρ' (agr_refl _ _)).2
    rw [hfr] at hk
    obtain ⟨plc, skc, mm, e, hl, hst, hnl⟩ := afrs_cons hk
    have e4 := afrs_nil hnl
    have f3 := astkN hst
    subst e4; subst f3
    rw [e]
    show PL xs L 129 (33, plc, [], 102, xsh0, M') Q
    refine PL.go (k := 1) (s' := (34, plc, [.int (-1)], 102, xsh0, M')) rfl ?_
    exact PL.ret (v := some (.int (-1))) rfl (hN hno)
  · have ec := List.mem_singleton.mp hc
    subst ec
    have b1 := hS'.bd (t := (1, (0, 11))) (by decide)
    dsimp only at b1
    have f1 := lt_of (hS'.fa (f := lt_ 1 2) (List.mem_cons_self ..))
    have c1 := cell_f (p := 47) (b := 3) (k := 2) hS' (List.mem_cons_self ..)
    have hq := hG ⟨by omega, by omega⟩
    refine call_cut (z := 13) (as := [r_ 47, .inl (aid 1)]) (rest := []) rfl rfl (by decide) hS' (fun asc R hasc hRR => ?_)
    obtain ⟨x, ex, dx⟩ := args1 hasc
    subst ex
    have hx : x = a := Int32.toInt_inj.mp (by omega)
    subst hx
    refine f13 (by omega) (by omega) ?_
    obtain ⟨cfr2, hS2, go2⟩ := hRR (b2i (winF (M' 48) (M' 49) x.toInt.toNat)) M' hR
    refine go2 ?_
    cases hw : winF (M' 48) (M' 49) x.toInt.toNat with
    | false =>
      rw [hw] at hS2 hq
      exact arunG_of (ρ0 := apush ρ' 3 (b2i false).toInt) (g := 1) (M0 := M') (cuts := []) prs0 hL allc0 (fun r h => aPost_val h hq) (fun c hc => by cases hc) 100 _ _ _ M' cfr2 b129_1 (kEb_of (k := 3) (lo := 0) (hi := 0) hS2 (by decide) (apush_in (by decide))) hM (aUnw.refl _ _) (by decide) (agr_refl _ _)
    | true =>
      rw [hw] at hS2 hq
      have p1 : apush ρ' 3 (b2i true).toInt 1 = x.toInt := (show apush ρ' 3 (b2i true).toInt 1 = ρ' 1 from if_neg (by decide)).trans e1
      refine arunG_of (ρ0 := apush ρ' 3 (b2i true).toInt) (g := 2) (M0 := M') prs0 hL allc0 (fun r h => aPost_no h) ?_ 100 _ _ _ M' cfr2 b129_2 (kEb_of (k := 3) (lo := 1) (hi := 1) hS2 (by decide) (apush_in (by decide))) hM (aUnw.refl _ _) (by decide) (agr_refl _ _)
      intro c hc ρ5 M5 cfr5 hS5 hM5 hU5 hag5
      have ec := List.mem_singleton.mp hc
      subst ec
      have eM := aUnw_nil hU5
      subst eM
      have v1 : ρ5 1 = x.toInt := (hag5 1 (by decide)).trans p1
      refine call_cut (z := 14) (as := [r_ 47, .inl (aid 1)]) (rest := []) rfl rfl (by decide) hS5 (fun asc R hasc hRR => ?_)
      obtain ⟨x2, ex2, dx2⟩ := args1 hasc
      subst ex2
      have hx2 : x2 = x := Int32.toInt_inj.mp (by omega)
      subst hx2
      refine f14_ hL hM5 hR (by omega) ?_
      obtain ⟨cfr6, hS6, go6⟩ := hRR (brk (M5 48) (M5 49) (M5 50) x2.toInt.toNat (M5 47 3).toInt.toNat 0) M5 hR
      refine go6 ?_
      refine arunG_of (ρ0 := apush ρ5 3 (brk (M5 48) (M5 49) (M5 50) x2.toInt.toNat (M5 47 3).toInt.toNat 0).toInt) (g := 4) (M0 := M5) prs0 hL allc0 (fun r h => aPost_no h) ?_ 100 _ _ _ M5 cfr6 b129_3 hS6 hM (aUnw.refl _ _) (by decide) (agr_refl _ _)
      intro c hc ρ7 M7 cfr7 hS7 hM7 hU7 hag7
      have ec := List.mem_singleton.mp hc
      subst ec
      have eM := aUnw_nil hU7
      subst eM
      have t3 : ρ7 3 = (brk (M7 48) (M7 49) (M7 50) x2.toInt.toNat (M7 47 3).toInt.toNat 0).toInt := (hag7 3 (by decide)).trans (if_pos rfl)
      refine ret_i (y := 129) (pc := 34) rfl rfl hS7 (fun x' hx' => ?_)
      rw [aev_id, t3] at hx'
      have : x' = brk (M7 48) (M7 49) (M7 50) x2.toInt.toNat (M7 47 3).toInt.toNat 0 := Int32.toInt_inj.mp hx'
      subst this
      exact hq
def fb213 (pc : Nat) (st : List aV) : List aFr := [(213, pc, [R_ 56, vi 1], st)]
def sb213 : aCutG := (fb213 10 [.inl (aid 1), r_ 56], (3, [e0, (1, (0, 11))], [lt_ 1 2], [((56, aco 52), aid 2)], [], [], []))
def ct_213e : aCt := (213, [.inr (.inr 56), .inl aFull], [], some aFull, ([], []))
def kc213 : aKn := (3, [e0, (1, (0, 11))], [], [], [], [], [])
theorem b213_0 : arunG [] [] ([], []) (n105 213 24 56 52 56 ++ [sb213]) 2 (some (1, 0)) 100 [(213, 0, axent 213 (aen ct_213e.2.1 1 [(0, (0, 2560))]).1, [])] (aK0 ct_213e) = true := by decide +kernel
theorem b213_1 : arunG [] [] ([], []) [] 1 (some ((-1 : Int32).toInt, (-1 : Int32).toInt)) 100 (fb213 13 [.inl (aid 3)]) (kEb [(3, (0, 0))] (kpush sb213.2)) = true := by decide +kernel
theorem b213_2 : arunG [] [] ([], []) [(fb213 18 [.inl (aid 1), r_ 56], kc213)] 2 (some (1, 0)) 100 (fb213 13 [.inl (aid 3)]) (kEb [(3, (1, 1))] (kpush sb213.2)) = true := by decide +kernel
theorem b213_3 : arunG [] [] ([], []) [(fb213 25 [.inl (aid 3)], (4, [e0], [], [], [], [], []))] 4 (some (1, 0)) 100 (fb213 21 [.inl (aid 3)]) (kpush kc213) = true := by decide +kernel
set_option maxRecDepth 100000 in
theorem f213 {xs : Nat → Int32} {L : Nat} {M : xM} {Q : xZ → Prop} {a : Int32} (hL : L ≤ 2560) (hM : aInv M) (hR : aRk M) (hN : ¬ (0 ≤ a.toInt ∧ a.toInt < (M 56 52).toInt) → Q (some (.int (-1)), 102, xsh0, M)) (hG : 0 ≤ a.toInt ∧ a.toInt < (M 56 52).toInt → Q (some (.int (brsR (winF (M 96) (M 97) a.toInt.toNat) (brk (M 96) (M 97) (M 98) a.toInt.toNat (M 56 52).toInt.toNat 0))), 102, xsh0, M)) : PL xs L 213 (0, xent 213 [.ref 56, .int a], [], 102, xsh0, M) Q := by
  obtain ⟨ρ2, hS⟩ := aentry (xs := xs) (c := ct_213e) (as := [.ref 56, .int a]) hL hR ⟨rfl, aFull_of a, trivial⟩
  have hl : aloc ρ2 [R_ 56, vi 1] [some (.ref 56), some (.int a)] := (hS ρ2 (agr_refl _ _)).2.1.2.2.1
  have hs1 : a.toInt = ρ2 1 := (show a.toInt = aev ρ2 (aid 1) from hl.2.1).trans aev_id
  show aGl xs L Q M [(213, 0, xent 213 [.ref 56, .int a], [])]
  refine arunG_of (ρ0 := ρ2) (g := 2) (M0 := M) prs0 hL allc0 (fun r h => aPost_no h) ?_ 100 _ _ ρ2 M _ b213_0 hS hM (aUnw.refl _ M) (by decide) (agr_refl _ _)
  intro c hc ρ' M' cfr' hS' hM' hU hag
  have eM : M' = M := aUnw_nil hU
  subst eM
  have e1 : ρ' 1 = a.toInt := (hag 1 (by decide)).trans hs1.symm
  rcases List.mem_append.mp hc with hc | hc
  · obtain ⟨hno, hfr⟩ := n105_of hc hS' e1
    have hk := (hS' ρ' (agr_refl _ _)).2
    rw [hfr] at hk
    obtain ⟨plc, skc, mm, e, hl, hst, hnl⟩ := afrs_cons hk
    have e4 := afrs_nil hnl
    have f3 := astkN hst
    subst e4; subst f3
    rw [e]
    show PL xs L 213 (24, plc, [], 102, xsh0, M') Q
    refine PL.go (k := 1) (s' := (25, plc, [.int (-1)], 102, xsh0, M')) rfl ?_
    exact PL.ret (v := some (.int (-1))) rfl (hN hno)
  · have ec := List.mem_singleton.mp hc
    subst ec
    have b1 := hS'.bd (t := (1, (0, 11))) (by decide)
    dsimp only at b1
    have f1 := lt_of (hS'.fa (f := lt_ 1 2) (List.mem_cons_self ..))
    have c1 := cell_f (p := 56) (b := 52) (k := 2) hS' (List.mem_cons_self ..)
    have hq := hG ⟨by omega, by omega⟩
    refine call_cut (z := 210) (as := [r_ 56, .inl (aid 1)]) (rest := []) rfl rfl (by decide) hS' (fun asc R hasc hRR => ?_)
    obtain ⟨x, ex, dx⟩ := args1 hasc
    subst ex
    have hx : x = a := Int32.toInt_inj.mp (by omega)
    subst hx
    refine f210 (by omega) (by omega) ?_
    obtain ⟨cfr2, hS2, go2⟩ := hRR (b2i (winF (M' 96) (M' 97) x.toInt.toNat)) M' hR
    refine go2 ?_
    cases hw : winF (M' 96) (M' 97) x.toInt.toNat with
    | false =>
      rw [hw] at hS2 hq
      exact arunG_of (ρ0 := apush ρ' 3 (b2i false).toInt) (g := 1) (M0 := M') (cuts := []) prs0 hL allc0 (fun r h => aPost_val h hq) (fun c hc => by cases hc) 100 _ _ _ M' cfr2 b213_1 (kEb_of (k := 3) (lo := 0) (hi := 0) hS2 (by decide) (apush_in (by decide))) hM (aUnw.refl _ _) (by decide) (agr_refl _ _)
    | true =>
      rw [hw] at hS2 hq
      have p1 : apush ρ' 3 (b2i true).toInt 1 = x.toInt := (show apush ρ' 3 (b2i true).toInt 1 = ρ' 1 from if_neg (by decide)).trans e1
      refine arunG_of (ρ0 := apush ρ' 3 (b2i true).toInt) (g := 2) (M0 := M') prs0 hL allc0 (fun r h => aPost_no h) ?_ 100 _ _ _ M' cfr2 b213_2 (kEb_of (k := 3) (lo := 1) (hi := 1) hS2 (by decide) (apush_in (by decide))) hM (aUnw.refl _ _) (by decide) (agr_refl _ _)
      intro c hc ρ5 M5 cfr5 hS5 hM5 hU5 hag5
      have ec := List.mem_singleton.mp hc
      subst ec
      have eM := aUnw_nil hU5
      subst eM
      have v1 : ρ5 1 = x.toInt := (hag5 1 (by decide)).trans p1
      refine call_cut (z := 211) (as := [r_ 56, .inl (aid 1)]) (rest := []) rfl rfl (by decide) hS5 (fun asc R hasc hRR => ?_)
      obtain ⟨x2, ex2, dx2⟩ := args1 hasc
      subst ex2
      have hx2 : x2 = x := Int32.toInt_inj.mp (by omega)
      subst hx2
      refine f211_ hL hM5 hR (by omega) ?_
      obtain ⟨cfr6, hS6, go6⟩ := hRR (brk (M5 96) (M5 97) (M5 98) x2.toInt.toNat (M5 56 52).toInt.toNat 0) M5 hR
      refine go6 ?_
      refine arunG_of (ρ0 := apush ρ5 3 (brk (M5 96) (M5 97) (M5 98) x2.toInt.toNat (M5 56 52).toInt.toNat 0).toInt) (g := 4) (M0 := M5) prs0 hL allc0 (fun r h => aPost_no h) ?_ 100 _ _ _ M5 cfr6 b213_3 hS6 hM (aUnw.refl _ _) (by decide) (agr_refl _ _)
      intro c hc ρ7 M7 cfr7 hS7 hM7 hU7 hag7
      have ec := List.mem_singleton.mp hc
      subst ec
      have eM := aUnw_nil hU7
      subst eM
      have t3 : ρ7 3 = (brk (M7 96) (M7 97) (M7 98) x2.toInt.toNat (M7 56 52).toInt.toNat 0).toInt := (hag7 3 (by decide)).trans (if_pos rfl)
      refine ret_i (y := 213) (pc := 25) rfl rfl hS7 (fun x' hx' => ?_)
      rw [aev_id, t3] at hx'
      have : x' = brk (M7 96) (M7 97) (M7 98) x2.toInt.toNat (M7 56 52).toInt.toNat 0 := Int32.toInt_inj.mp hx'
      subst this
      exact hq
section ABT
variable {xs : Nat → Int32} {L : Nat} {M : xM}
theorem bargain_two (hL : L ≤ 2560) (hM : aInv M) (hR : aRk M) (hv : ∀ i, M 48 i = M 96 i) (hs : ∀ i, M 49 i = M 97 i) (hw : ∀ i, M 50 i = M 98 i) (hz : (M 47 3).toInt = (M 56 52).toInt) (a what : Int32) : ∃ v, aTwo xs L 128 212 [.int a, .int what] v M M M := by
  have ev : M 48 = M 96 := funext hv
  have es : M 49 = M 97 := funext hs
  have ew : M 50 = M 98 := funext hw
  by_cases hin : in128 M a what
  · have hin2 : in212 M a what := ⟨hin.1, by rw [← hz]; exact hin.2.1, hin.2.2⟩
    refine ⟨barR (winF (M 48) (M 49) a.toInt.toNat) (brk (M 48) (M 49) (M 50) a.toInt.toNat (M 47 3).toInt.toNat 0) what, fun R h => f128 hL hM hR (fun hn => absurd hin hn) (fun _ => h), fun R h => f212 hL hM hR (fun hn => absurd hin2 hn) (fun _ => ?_), hM, hR, hM, hR⟩
    rw [← ev, ← es, ← ew, ← hz]
    exact h
  · have hin2 : ¬ in212 M a what := fun h => hin ⟨h.1, by rw [hz]; exact h.2.1, h.2.2⟩
    exact ⟨-1, fun R h => f128 hL hM hR (fun _ => h) (fun hn => absurd hn hin), fun R h => f212 hL hM hR (fun _ => h) (fun hn => absurd hn hin2), hM, hR, hM, hR⟩
theorem breaks_two (hL : L ≤ 2560) (hM : aInv M) (hR : aRk M) (hv : ∀ i, M 48 i = M 96 i) (hs : ∀ i, M 49 i = M 97 i) (hw : ∀ i, M 50 i = M 98 i) (hz : (M 47 3).toInt = (M 56 52).toInt) (a : Int32) : ∃ v, aTwo xs L 129 213 [.int a] v M M M := by
  have ev : M 48 = M 96 := funext hv
  have es : M 49 = M 97 := funext hs
  have ew : M 50 = M 98 := funext hw
  by_cases hin : 0 ≤ a.toInt ∧ a.toInt < (M 47 3).toInt
  · have hin2 : 0 ≤ a.toInt ∧ a.toInt < (M 56 52).toInt := by omega
    refine ⟨brsR (winF (M 48) (M 49) a.toInt.toNat) (brk (M 48) (M 49) (M 50) a.toInt.toNat (M 47 3).toInt.toNat 0), fun R h => f129 hL hM hR (fun hn => absurd hin hn) (fun _ => h), fun R h => f213 hL hM hR (fun hn => absurd hin2 hn) (fun _ => ?_), hM, hR, hM, hR⟩
    rw [← ev, ← es, ← ew, ← hz]
    exact h
  · have hin2 : ¬ (0 ≤ a.toInt ∧ a.toInt < (M 56 52).toInt) := by omega
    exact ⟨-1, fun R h => f129 hL hM hR (fun _ => h) (fun hn => absurd hn hin), fun R h => f213 hL hM hR (fun _ => h) (fun hn => absurd hn hin2), hM, hR, hM, hR⟩
end ABT
