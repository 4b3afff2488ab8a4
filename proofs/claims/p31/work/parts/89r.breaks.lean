/-! BY HAND: the reference's breakerOf -/
def f211 (pc : Nat) (l2 l3 l4 : Option aV) (st : List aV) : List aFr := [(211, pc, [R_ 56, vi 1, l2, l3, l4], st)]
def i211 : aCutG := (f211 32 (vi 2) (vi 3) (vi 4) [], (5, e15 ++ [(3, (0, 1)), (4, (0, 6))], [], [], [], [], []))
def u211 : aU := [((5, aid 5, aid 4), aid 6), ((1, aid 6, aco 1), aid 7)]
def y0_211 : aCutG := (f211 96 (vi 2) (vi 3) (vi 4) [], (5, e15 ++ [(3, (0, 1)), (4, (6, 6))], [], [], [], [], []))
def y1_211 : aCutG := (f211 32 (vi 2) z_ (vk 1 4) [], (5, e15 ++ [(3, (0, 0)), (4, (0, 5))], [], [], [], [], []))
def y2_211 : aCutG := (f211 32 (vi 2) o_ (vk 1 4) [], (8, e15 ++ [(3, (1, 1)), (4, (0, 5)), (7, (0, 0))], [], [((97, aid 2), aid 5)], u211, [], []))
def y3_211 : aCutG := (f211 32 (vi 2) o_ (vk 1 4) [], (10, e15 ++ [(3, (1, 1)), (4, (0, 5))], [lt_ 9 8], [((98, w6 2 4), aid 8), ((98, w6 1 4), aid 9)], [], [], []))
def y4_211 : aCutG := (f211 32 (vi 2) z_ (vk 1 4) [], (10, e15 ++ [(4, (0, 5)), (7, (1, 1))], [le_ 8 9], [((97, aid 2), aid 5), ((98, w6 2 4), aid 8), ((98, w6 1 4), aid 9)], u211, [], []))
theorem g211_1 : arunG [] [] ([], []) [y0_211, y1_211, y2_211, y3_211, y4_211] 5 (some (1, 0)) 100 i211.1 i211.2 = true := by decide +kernel
def sz211 : aSg := [(0, aid 0), (1, aid 1), (2, aid 2), (3, aco 0), (4, (1, [(4, 1)]))]
def so211 : aSg := [(0, aid 0), (1, aid 1), (2, aid 2), (3, aco 1), (4, (1, [(4, 1)]))]
theorem g211_2 : (achF sz211 i211.1 y1_211.1 && achKU sz211 i211.2 y1_211.2) = true := by decide +kernel
theorem g211_3 : (achF so211 i211.1 y2_211.1 && achKU so211 i211.2 y2_211.2) = true := by decide +kernel
theorem g211_4 : (achF so211 i211.1 y3_211.1 && achKU so211 i211.2 y3_211.2) = true := by decide +kernel
theorem g211_5 : (achF sz211 i211.1 y4_211.1 && achKU sz211 i211.2 y4_211.2) = true := by decide +kernel
def o211 : aCutG := (f211 2 (vi 2) none none [], (3, e14 ++ [(2, (0, 12))], [], [], [], [], []))
def k211 : aKn := (4, e14 ++ [(2, (0, 11))], [lt_ 2 3], [((56, aco 52), aid 3)], [], [], [])
def j211 (l : Option aV) : aCutG := (f211 32 (vi 2) l z_ [], (3, e15, [], [], [], [], []))
def n211 : aCutG := (f211 2 (vk 1 2) none none [], (3, e14 ++ [(2, (0, 11))], [], [], [], [], []))
theorem g211_6 : arunG [] [] ([], []) [(f211 108 (vi 2) none none [], (4, e14 ++ [(2, (0, 12))], [le_ 3 2], [((56, aco 52), aid 3)], [], [], [])), (f211 12 (vi 2) none none [.inl (aid 1), .inl (aid 2)], k211)] 3 (some (1, 0)) 100 o211.1 o211.2 = true := by decide +kernel
theorem g211_7 : arunG [] [] ([], []) [j211 z_] 3 (some (1, 0)) 100 (f211 27 (vi 2) none none []) k211 = true := by decide +kernel
theorem g211_8 : arunG [] [] ([], []) [(f211 17 (vi 2) none none [.inl (aid 2), r_ 56], k211)] 4 (some (1, 0)) 100 (f211 15 (vi 2) none none []) k211 = true := by decide +kernel
theorem g211_9 : arunG [] [] ([], []) [j211 z_] 3 (some (1, 0)) 100 (f211 20 (vi 2) none none [.inl (aid 4)]) (kW 0 (kpush k211)) = true := by decide +kernel
theorem g211_10 : arunG [] [] ([], []) [j211 o_] 3 (some (1, 0)) 100 (f211 20 (vi 2) none none [.inl (aid 4)]) (kW 1 (kpush k211)) = true := by decide +kernel
def kE3 (v : Int) (K : aKn) : aKn := (K.1, [(3, (v, v))] ++ K.2.1, K.2.2)
theorem g211_11 : arunG [] [] ([], []) [n211] 3 (some (1, 0)) 100 y0_211.1 (kE3 0 y0_211.2) = true := by decide +kernel
theorem g211_12 : arunG [] [] ([], []) [(f211 101 (vi 2) none none [.inl (aid 2)], (3, e15, [], [], [], [], []))] 3 (some (1, 0)) 100 y0_211.1 (kE3 1 y0_211.2) = true := by decide +kernel
theorem g211_13 : (achF [(0, aid 0), (1, aid 1), (2, (1, [(2, 1)]))] o211.1 n211.1 && achKU [(0, aid 0), (1, aid 1), (2, (1, [(2, 1)]))] o211.2 n211.2) = true := by decide +kernel
def sj0 : aSg := [(0, aid 0), (1, aid 1), (2, aid 2), (3, aco 0), (4, aco 0)]
def sj1 : aSg := [(0, aid 0), (1, aid 1), (2, aid 2), (3, aco 1), (4, aco 0)]
theorem g211_14 : (achF sj0 i211.1 (j211 z_).1 && achKU sj0 i211.2 (j211 z_).2) = true := by decide +kernel
theorem g211_15 : (achF sj1 i211.1 (j211 o_).1 && achKU sj1 i211.2 (j211 o_).2) = true := by decide +kernel
def ct_211e : aCt := (211, [.inr (.inr 56), .inl (0, 11)], [], some (-1, 11), ([], []))
theorem g211_0 : arunG [] [] ([], []) [(f211 2 z_ none none [], (2, e14, [], [], [], [], []))] 2 (some (1, 0)) 100 [(211, 0, axent 211 (aen ct_211e.2.1 1 [(0, (0, 2560))]).1, [])] (aK0 ct_211e) = true := by decide +kernel
theorem g211_16 : (achF [(0, aid 0), (1, aid 1), (2, aco 0)] o211.1 (f211 2 z_ none none []) && achKU [(0, aid 0), (1, aid 1), (2, aco 0)] o211.2 (2, e14, [], [], [], [], [])) = true := by decide +kernel
section ABM
variable {xs : Nat → Int32} {L : Nat} {M : xM} {Q : xZ → Prop}
theorem lI211 (hL : L ≤ 2560) (hM : aInv M) {o k : Int} {v : Bool} (hE : ∀ (ρ' : Nat → Int) (cfr' : List cFr), ρ' 1 = o → ρ' 2 = k → ρ' 3 = (b2i v).toInt → aHS xs L [] M y0_211.2 ρ' y0_211.1 cfr' → aGl xs L Q M cfr') : ∀ (n : Nat) (ρ : Nat → Int) (cfr : List cFr), 6 - ρ 4 = (n : Int) → ρ 1 = o → ρ 2 = k → v = (decide (ρ 3 = 1) && gvA (M 97) (M 98) k.toNat o.toNat n) → aHS xs L [] M i211.2 ρ i211.1 cfr → aGl xs L Q M cfr := by
  intro n
  induction n with
  | zero =>
    intro ρ cfr hn ho hk hv hS
    have b3 := hS.bd (t := (3, (0, 1))) (by decide)
    dsimp only at b3
    refine arunG_of (ρ0 := ρ) (g := 5) (M0 := M) prs0 hL allc0 (fun r h => aPost_no h) ?_ 100 _ _ ρ M cfr g211_1 hS hM (aUnw.refl _ M) (Nat.le_refl 5) (agr_refl _ _)
    intro c hc ρ' M' cfr' hS' hM' hU hag
    have eM : M' = M := aUnw_nil hU
    subst eM
    have e1 : ρ' 1 = ρ 1 := hag 1 (by decide)
    have e2 : ρ' 2 = ρ 2 := hag 2 (by decide)
    have e3 : ρ' 3 = ρ 3 := hag 3 (by decide)
    have e4 : ρ' 4 = ρ 4 := hag 4 (by decide)
    have hb : ∀ {K : aKn} {fr : List aFr}, aHS xs L [] M' K ρ' fr cfr' → (4, ((0 : Int), (5 : Int))) ∈ K.2.1 → aGl xs L Q M' cfr' := fun h hm => by
      have := h.bd hm
      dsimp only at this
      omega
    simp only [List.mem_cons, List.not_mem_nil, or_false] at hc
    rcases hc with e | e | e | e | e
    · subst e
      refine hE ρ' cfr' (by omega) (by omega) ?_ hS'
      rw [hv, e3]
      show _ = (b2i (decide (ρ 3 = 1) && true)).toInt
      rw [Bool.and_true]
      by_cases h1 : ρ 3 = 1
      · rw [decide_eq_true h1, h1]; rfl
      · rw [decide_eq_false h1, show ρ 3 = 0 by omega]; rfl
    · subst e; exact hb hS' (by decide)
    · subst e; exact hb hS' (by decide)
    · subst e; exact hb hS' (by decide)
    · subst e; exact hb hS' (by decide)
  | succ n ih =>
    intro ρ cfr hn ho hk hv hS
    refine arunG_of (ρ0 := ρ) (g := 5) (M0 := M) prs0 hL allc0 (fun r h => aPost_no h) ?_ 100 _ _ ρ M cfr g211_1 hS hM (aUnw.refl _ M) (Nat.le_refl 5) (agr_refl _ _)
    intro c hc ρ' M' cfr' hS' hM' hU hag
    have eM : M' = M := aUnw_nil hU
    subst eM
    have e1 : ρ' 1 = ρ 1 := hag 1 (by decide)
    have e2 : ρ' 2 = ρ 2 := hag 2 (by decide)
    have e3 : ρ' 3 = ρ 3 := hag 3 (by decide)
    have e4 : ρ' 4 = ρ 4 := hag 4 (by decide)
    have hg : (ρ' 4).toNat = 5 - n := by omega
    have hgv : gvA (M' 97) (M' 98) k.toNat o.toNat (n + 1) = (gvF (M' 97) (M' 98) (ρ' 2).toNat (ρ' 1).toNat (ρ' 4).toNat && gvA (M' 97) (M' 98) k.toNat o.toNat n) := by
      rw [show ρ' 2 = k by omega, show ρ' 1 = o by omega, hg]
      rfl
    have go : ∀ {K : aKn} {fr : List aFr} {sg : aSg} {b : Int}, aHS xs L [] M' K ρ' fr cfr' → (achF sg i211.1 fr && achKU sg i211.2 K) = true → alS sg 1 = some (aid 1) → alS sg 2 = some (aid 2) → alS sg 3 = some (aco b) → alS sg 4 = some (1, [(4, 1)]) → v = (decide (b = 1) && gvA (M' 97) (M' 98) k.toNat o.toNat n) → aGl xs L Q M' cfr' := fun hK hr h1 h2 h3 h4 hvv => by
      obtain ⟨ρc, hSc, hρc⟩ := aconv _ hr hK
      have q1 : ρc 1 = ρ' 1 := (hρc 1 _ h1).trans aev_id
      have q2 : ρc 2 = ρ' 2 := (hρc 2 _ h2).trans aev_id
      have q3 := (hρc 3 _ h3).trans aev_co
      have q4 : ρc 4 = 1 + ρ' 4 := (hρc 4 _ h4).trans aev_s
      exact ih ρc cfr' (by omega) (by omega) (by omega) (by rw [q3]; exact hvv) hSc
    simp only [List.mem_cons, List.not_mem_nil, or_false] at hc
    rcases hc with e | e | e | e | e
    · subst e
      have := hS'.bd (t := (4, (6, 6))) (by decide)
      dsimp only at this
      omega
    · subst e
      have b3 := hS'.bd (t := (3, (0, 0))) (by decide)
      dsimp only at b3
      refine go hS' g211_2 rfl rfl rfl rfl ?_
      rw [hv, decide_eq_false (show ¬ ρ 3 = 1 by omega)]
      rfl
    · subst e
      have b3 := hS'.bd (t := (3, (1, 1))) (by decide)
      have b4 := hS'.bd (t := (4, (0, 5))) (by decide)
      have b7 := hS'.bd (t := (7, (0, 0))) (by decide)
      dsimp only at b3 b4 b7
      have hbt := bt_of (ps := 97) (i := 2) (g := 4) (a := 5) (b := 6) (c := 7) hS' (List.mem_cons_self ..) (List.mem_cons_self ..) (List.mem_cons_of_mem _ (List.mem_cons_self ..)) ⟨b4.1, b4.2⟩
      have hf : gvF (M' 97) (M' 98) (ρ' 2).toNat (ρ' 1).toNat (ρ' 4).toNat = true := by
        unfold gvF
        rw [decide_eq_true (by omega), Bool.true_or]
      refine go hS' g211_3 rfl rfl rfl rfl ?_
      rw [hv, hgv, hf, decide_eq_true (show ρ 3 = 1 by omega)]
      rfl
    · subst e
      have b1 := hS'.bd (t := (1, (0, 11))) (by decide)
      have b2 := hS'.bd (t := (2, (0, 11))) (by decide)
      have b3 := hS'.bd (t := (3, (1, 1))) (by decide)
      have b4 := hS'.bd (t := (4, (0, 5))) (by decide)
      dsimp only at b1 b2 b3 b4
      have f1 := lt_of (hS'.fa (f := lt_ 9 8) (List.mem_cons_self ..))
      have c8 := w6_of (p := 98) (a := 2) (b := 4) (k := 8) hS' (List.mem_cons_self ..) b2.1 b4.1
      have c9 := w6_of (p := 98) (a := 1) (b := 4) (k := 9) hS' (List.mem_cons_of_mem _ (List.mem_cons_self ..)) b1.1 b4.1
      have hf : gvF (M' 97) (M' 98) (ρ' 2).toNat (ρ' 1).toNat (ρ' 4).toNat = true := by
        unfold gvF
        rw [decide_eq_true (p := (M' 98 (6 * (ρ' 1).toNat + (ρ' 4).toNat)).toInt < (M' 98 (6 * (ρ' 2).toNat + (ρ' 4).toNat)).toInt) (by omega), Bool.or_true]
      refine go hS' g211_4 rfl rfl rfl rfl ?_
      rw [hv, hgv, hf, decide_eq_true (show ρ 3 = 1 by omega)]
      rfl
    · subst e
      have b1 := hS'.bd (t := (1, (0, 11))) (by decide)
      have b2 := hS'.bd (t := (2, (0, 11))) (by decide)
      have b4 := hS'.bd (t := (4, (0, 5))) (by decide)
      have b7 := hS'.bd (t := (7, (1, 1))) (by decide)
      dsimp only at b1 b2 b4 b7
      have f1 := le_of (hS'.fa (f := le_ 8 9) (List.mem_cons_self ..))
      have hbt := bt_of (ps := 97) (i := 2) (g := 4) (a := 5) (b := 6) (c := 7) hS' (List.mem_cons_self ..) (List.mem_cons_self ..) (List.mem_cons_of_mem _ (List.mem_cons_self ..)) ⟨b4.1, b4.2⟩
      have c8 := w6_of (p := 98) (a := 2) (b := 4) (k := 8) hS' (List.mem_cons_of_mem _ (List.mem_cons_self ..)) b2.1 b4.1
      have c9 := w6_of (p := 98) (a := 1) (b := 4) (k := 9) hS' (List.mem_cons_of_mem _ (List.mem_cons_of_mem _ (List.mem_cons_self ..))) b1.1 b4.1
      have hf : gvF (M' 97) (M' 98) (ρ' 2).toNat (ρ' 1).toNat (ρ' 4).toNat = false := by
        unfold gvF
        rw [decide_eq_false (by omega), decide_eq_false (by omega)]
        rfl
      refine go hS' g211_5 rfl rfl rfl rfl ?_
      rw [hv, hgv, hf, Bool.false_and, Bool.and_false]
      rfl
theorem l211 (hL : L ≤ 2560) (hM : aInv M) (hR : aRk M) : ∀ (n : Nat) (ρ : Nat → Int) (cfr : List cFr), ρ 2 ≤ (M 56 52).toInt → (M 56 52).toInt - ρ 2 = (n : Int) → Q (some (.int (brk (M 96) (M 97) (M 98) (ρ 1).toNat n (ρ 2).toNat)), 102, xsh0, M) → aHS xs L [] M o211.2 ρ o211.1 cfr → aGl xs L Q M cfr := by
  intro n
  induction n with
  | zero =>
    intro ρ cfr hle hn hq hS
    refine arunG_of (ρ0 := ρ) (g := 3) (M0 := M) prs0 hL allc0 (fun r h => aPost_no h) ?_ 100 _ _ ρ M cfr g211_6 hS hM (aUnw.refl _ M) (Nat.le_refl 3) (agr_refl _ _)
    intro c hc ρ' M' cfr' hS' hM' hU hag
    have eM : M' = M := aUnw_nil hU
    subst eM
    have e2 : ρ' 2 = ρ 2 := hag 2 (by decide)
    simp only [List.mem_cons, List.not_mem_nil, or_false] at hc
    rcases hc with e | e
    · subst e
      obtain ⟨plc, skc, m, e, hl, hst, hnl⟩ := afrs_cons (hS' ρ' (agr_refl _ _)).2
      have f2 := astkN hst
      have f3 := afrs_nil hnl
      subst f2; subst f3
      rw [e]
      show PL xs L 211 (108, plc, [], 102, xsh0, M') Q
      refine PL.go (k := 1) (s' := (109, plc, [.int (-1)], 102, xsh0, M')) rfl ?_
      exact PL.ret (v := some (.int (-1))) rfl hq
    · subst e
      have f1 := lt_of (hS'.fa (f := lt_ 2 3) (List.mem_cons_self ..))
      have c1 := cell_f (p := 56) (b := 52) (k := 3) hS' (List.mem_cons_self ..)
      omega
  | succ n ih =>
    intro ρ cfr hle hn hq hS
    have hsz := hM.1.2 56 52 (0, 12) rfl
    dsimp only at hsz
    have b1 := hS.bd (t := (1, (0, 11))) (by decide)
    have b2 := hS.bd (t := (2, (0, 12))) (by decide)
    dsimp only at b1 b2
    have fin : ∀ (v : Bool), brP (M 96) (M 97) (M 98) (ρ 1).toNat (ρ 2).toNat = v → ∀ (ρ1 : Nat → Int) (cfr1 : List cFr), ρ1 1 = ρ 1 → ρ1 2 = ρ 2 → ρ1 3 = (b2i v).toInt → aHS xs L [] M y0_211.2 ρ1 y0_211.1 cfr1 → aGl xs L Q M cfr1 := by
      intro v hp ρ1 cfr1 h1 h2 h3 hS1
      cases v with
      | false =>
        have hS2 : aHS xs L [] M (kE3 0 y0_211.2) ρ1 y0_211.1 cfr1 := aHS_E (E := [(3, (0, 0))]) hS1 (fun ρ'' h t ht => by
          have et := List.mem_singleton.mp ht
          subst et
          have : ρ'' 3 = ρ1 3 := h 3 (by decide)
          show 0 ≤ ρ'' 3 ∧ ρ'' 3 ≤ 0
          rw [this, h3]
          decide)
        refine arunG_of (ρ0 := ρ1) (g := 3) (M0 := M) prs0 hL allc0 (fun r h => aPost_no h) ?_ 100 _ _ ρ1 M cfr1 g211_11 hS2 hM (aUnw.refl _ _) (by decide) (agr_refl _ _)
        intro c hc ρ3 M3 cfr3 hS3 hM3 hU3 hag3
        have ec := List.mem_singleton.mp hc
        subst ec
        have eM := aUnw_nil hU3
        subst eM
        have u1 : ρ3 1 = ρ1 1 := hag3 1 (by decide)
        have u2 : ρ3 2 = ρ1 2 := hag3 2 (by decide)
        obtain ⟨ρc, hSc, hρc⟩ := aconv [(0, aid 0), (1, aid 1), (2, (1, [(2, 1)]))] g211_13 hS3
        have q1 : ρc 1 = ρ3 1 := (hρc 1 (aid 1) rfl).trans aev_id
        have q2 : ρc 2 = 1 + ρ3 2 := (hρc 2 (1, [(2, 1)]) rfl).trans aev_s
        refine ih ρc cfr3 (by omega) (by omega) ?_ hSc
        rw [brk_n hp] at hq
        rw [q1, q2, u1, u2, h1, h2, show (1 + ρ 2).toNat = (ρ 2).toNat + 1 by omega]
        exact hq
      | true =>
        have hS2 : aHS xs L [] M (kE3 1 y0_211.2) ρ1 y0_211.1 cfr1 := aHS_E (E := [(3, (1, 1))]) hS1 (fun ρ'' h t ht => by
          have et := List.mem_singleton.mp ht
          subst et
          have : ρ'' 3 = ρ1 3 := h 3 (by decide)
          show 1 ≤ ρ'' 3 ∧ ρ'' 3 ≤ 1
          rw [this, h3]
          decide)
        refine arunG_of (ρ0 := ρ1) (g := 3) (M0 := M) prs0 hL allc0 (fun r h => aPost_no h) ?_ 100 _ _ ρ1 M cfr1 g211_12 hS2 hM (aUnw.refl _ _) (by decide) (agr_refl _ _)
        intro c hc ρ3 M3 cfr3 hS3 hM3 hU3 hag3
        have ec := List.mem_singleton.mp hc
        subst ec
        have eM := aUnw_nil hU3
        subst eM
        have u2 : ρ3 2 = ρ1 2 := hag3 2 (by decide)
        rw [brk_y hp] at hq
        refine ret_i (y := 211) (pc := 101) rfl rfl hS3 (fun x' hx' => ?_)
        rw [aev_id] at hx'
        have : x' = Int32.ofNat (ρ 2).toNat := Int32.toInt_inj.mp (by rw [i32_ofNat (by omega)]; omega)
        subst this
        exact hq
    have inner0 : brP (M 96) (M 97) (M 98) (ρ 1).toNat (ρ 2).toNat = false → ∀ (ρ1 : Nat → Int) (cfr1 : List cFr), ρ1 1 = ρ 1 → ρ1 2 = ρ 2 → aHS xs L [] M (j211 z_).2 ρ1 (j211 z_).1 cfr1 → aGl xs L Q M cfr1 := by
      intro hp ρ1 cfr1 h1 h2 hS1
      obtain ⟨ρc, hSc, hρc⟩ := aconv sj0 g211_14 hS1
      have q1 : ρc 1 = ρ1 1 := (hρc 1 (aid 1) rfl).trans aev_id
      have q2 : ρc 2 = ρ1 2 := (hρc 2 (aid 2) rfl).trans aev_id
      have q3 : ρc 3 = 0 := (hρc 3 (aco 0) rfl).trans aev_co
      have q4 : ρc 4 = 0 := (hρc 4 (aco 0) rfl).trans aev_co
      refine lI211 hL hM (o := ρ 1) (k := ρ 2) (v := false) (fun ρ' cfr' a1 a2 a3 hSS => fin false hp ρ' cfr' a1 a2 a3 hSS) 6 ρc cfr1 (by rw [q4]; rfl) (by omega) (by omega) ?_ hSc
      rw [q3]
      rfl
    have inner1 : Nat.beq (ρ 2).toNat (ρ 1).toNat = false → winF (M 96) (M 97) (ρ 2).toNat = true → ∀ (ρ1 : Nat → Int) (cfr1 : List cFr), ρ1 1 = ρ 1 → ρ1 2 = ρ 2 → aHS xs L [] M (j211 o_).2 ρ1 (j211 o_).1 cfr1 → aGl xs L Q M cfr1 := by
      intro hb hw ρ1 cfr1 h1 h2 hS1
      obtain ⟨ρc, hSc, hρc⟩ := aconv sj1 g211_15 hS1
      have q1 : ρc 1 = ρ1 1 := (hρc 1 (aid 1) rfl).trans aev_id
      have q2 : ρc 2 = ρ1 2 := (hρc 2 (aid 2) rfl).trans aev_id
      have q3 : ρc 3 = 1 := (hρc 3 (aco 1) rfl).trans aev_co
      have q4 : ρc 4 = 0 := (hρc 4 (aco 0) rfl).trans aev_co
      refine lI211 hL hM (o := ρ 1) (k := ρ 2) (v := gvA (M 97) (M 98) (ρ 2).toNat (ρ 1).toNat 6) (fun ρ' cfr' a1 a2 a3 hSS => fin _ (by unfold brP; rw [hb, hw]; rfl) ρ' cfr' a1 a2 a3 hSS) 6 ρc cfr1 (by rw [q4]; rfl) (by omega) (by omega) ?_ hSc
      rw [q3]
      rfl
    refine arunG_of (ρ0 := ρ) (g := 3) (M0 := M) prs0 hL allc0 (fun r h => aPost_no h) ?_ 100 _ _ ρ M cfr g211_6 hS hM (aUnw.refl _ M) (Nat.le_refl 3) (agr_refl _ _)
    intro c hc ρ' M' cfr' hS' hM' hU hag
    have eM : M' = M := aUnw_nil hU
    subst eM
    have e1 : ρ' 1 = ρ 1 := hag 1 (by decide)
    have e2 : ρ' 2 = ρ 2 := hag 2 (by decide)
    simp only [List.mem_cons, List.not_mem_nil, or_false] at hc
    rcases hc with e | e
    · subst e
      have f1 := le_of (hS'.fa (f := le_ 3 2) (List.mem_cons_self ..))
      have c1 := cell_f (p := 56) (b := 52) (k := 3) hS' (List.mem_cons_self ..)
      omega
    · subst e
      have f1 := lt_of (hS'.fa (f := lt_ 2 3) (List.mem_cons_self ..))
      have c1 := cell_f (p := 56) (b := 52) (k := 3) hS' (List.mem_cons_self ..)
      refine br_icmp (y := 211) (pc := 12) (tgt := 27) (op := .eq) (Or.inl rfl) rfl hS' (fun heq cfr2 hS2 => ?_) (fun hne cfr2 hS2 => ?_)
      · rw [aev_id, aev_id] at heq
        refine arunG_of (ρ0 := ρ') (g := 3) (M0 := M') prs0 hL allc0 (fun r h => aPost_no h) ?_ 100 _ _ ρ' M' cfr2 g211_7 hS2 hM (aUnw.refl _ _) (by decide) (agr_refl _ _)
        intro c hc ρ3 M3 cfr3 hS3 hM3 hU3 hag3
        have ec := List.mem_singleton.mp hc
        subst ec
        have eM := aUnw_nil hU3
        subst eM
        have u1 : ρ3 1 = ρ' 1 := hag3 1 (by decide)
        have u2 : ρ3 2 = ρ' 2 := hag3 2 (by decide)
        refine inner0 ?_ ρ3 cfr3 (by omega) (by omega) hS3
        unfold brP
        rw [show (ρ 2).toNat = (ρ 1).toNat by omega, Nat.beq_refl]
        rfl
      · rw [aev_id, aev_id] at hne
        have hbne : Nat.beq (ρ 2).toNat (ρ 1).toNat = false := by
          cases c : Nat.beq (ρ 2).toNat (ρ 1).toNat with
          | false => rfl
          | true => exact absurd (Nat.eq_of_beq_eq_true c) (by omega)
        refine arunG_of (ρ0 := ρ') (g := 4) (M0 := M') prs0 hL allc0 (fun r h => aPost_no h) ?_ 100 _ _ ρ' M' cfr2 g211_8 hS2 hM (aUnw.refl _ _) (by decide) (agr_refl _ _)
        intro c hc ρ3 M3 cfr3 hS3 hM3 hU3 hag3
        have ec := List.mem_singleton.mp hc
        subst ec
        have eM := aUnw_nil hU3
        subst eM
        have u1 : ρ3 1 = ρ' 1 := hag3 1 (by decide)
        have u2 : ρ3 2 = ρ' 2 := hag3 2 (by decide)
        refine call_cut (z := 210) (as := [r_ 56, .inl (aid 2)]) (rest := []) rfl rfl (by decide) hS3 (fun asc R hasc hRR => ?_)
        obtain ⟨x, ex, dx⟩ := args1 hasc
        subst ex
        refine f210 (by omega) (by omega) ?_
        have exn : x.toInt.toNat = (ρ 2).toNat := by rw [dx, u2, e2]
        rw [exn]
        obtain ⟨cfr4, hS4, go4⟩ := hRR (b2i (winF (M3 96) (M3 97) (ρ 2).toNat)) M3 hR
        refine go4 ?_
        cases hw : winF (M3 96) (M3 97) (ρ 2).toNat with
        | false =>
          rw [hw] at hS4
          refine arunG_of (ρ0 := apush ρ3 4 (b2i false).toInt) (g := 3) (M0 := M3) prs0 hL allc0 (fun r h => aPost_no h) ?_ 100 _ _ _ M3 cfr4 g211_9 (kW_of (n := 4) (v := 0) rfl rfl hS4) hM (aUnw.refl _ _) (by decide) (agr_refl _ _)
          intro c hc ρ5 M5 cfr5 hS5 hM5 hU5 hag5
          have ec := List.mem_singleton.mp hc
          subst ec
          have eM := aUnw_nil hU5
          subst eM
          have v1 : ρ5 1 = ρ3 1 := hag5 1 (by decide)
          have v2 : ρ5 2 = ρ3 2 := hag5 2 (by decide)
          exact inner0 (by unfold brP; rw [hw, Bool.false_and, Bool.and_false]) ρ5 cfr5 (by omega) (by omega) hS5
        | true =>
          rw [hw] at hS4
          refine arunG_of (ρ0 := apush ρ3 4 (b2i true).toInt) (g := 3) (M0 := M3) prs0 hL allc0 (fun r h => aPost_no h) ?_ 100 _ _ _ M3 cfr4 g211_10 (kW_of (n := 4) (v := 1) rfl rfl hS4) hM (aUnw.refl _ _) (by decide) (agr_refl _ _)
          intro c hc ρ5 M5 cfr5 hS5 hM5 hU5 hag5
          have ec := List.mem_singleton.mp hc
          subst ec
          have eM := aUnw_nil hU5
          subst eM
          have v1 : ρ5 1 = ρ3 1 := hag5 1 (by decide)
          have v2 : ρ5 2 = ρ3 2 := hag5 2 (by decide)
          exact inner1 hbne hw ρ5 cfr5 (by omega) (by omega) hS5
theorem f211_ (hL : L ≤ 2560) (hM : aInv M) (hR : aRk M) {a : Int32} (ha : 0 ≤ a.toInt ∧ a.toInt ≤ 11) (hq : Q (some (.int (brk (M 96) (M 97) (M 98) a.toInt.toNat (M 56 52).toInt.toNat 0)), 102, xsh0, M)) : PL xs L 211 (0, xent 211 [.ref 56, .int a], [], 102, xsh0, M) Q := by
  obtain ⟨ρ2, hS⟩ := aentry (xs := xs) (c := ct_211e) (as := [.ref 56, .int a]) hL hR ⟨rfl, ha, trivial⟩
  have hl : aloc ρ2 [R_ 56, vi 1, none, none, none] [some (.ref 56), some (.int a), none, none, none] := (hS ρ2 (agr_refl _ _)).2.1.2.2.1
  have hs1 : a.toInt = ρ2 1 := (show a.toInt = aev ρ2 (aid 1) from hl.2.1).trans aev_id
  have hsz := hM.1.2 56 52 (0, 12) rfl
  dsimp only at hsz
  show aGl xs L Q M [(211, 0, xent 211 [.ref 56, .int a], [])]
  refine arunG_of (ρ0 := ρ2) (g := 2) (M0 := M) prs0 hL allc0 (fun r h => aPost_no h) ?_ 100 _ _ ρ2 M _ g211_0 hS hM (aUnw.refl _ M) (by decide) (agr_refl _ _)
  intro c hc ρ' M' cfr' hS' hM' hU hag
  have ec := List.mem_singleton.mp hc
  subst ec
  have eM : M' = M := aUnw_nil hU
  subst eM
  obtain ⟨ρc, hSc, hρc⟩ := aconv [(0, aid 0), (1, aid 1), (2, aco 0)] g211_16 hS'
  have q1 : ρc 1 = ρ' 1 := (hρc 1 (aid 1) rfl).trans aev_id
  have q2 : ρc 2 = 0 := (hρc 2 (aco 0) rfl).trans aev_co
  have e1 : ρ' 1 = ρ2 1 := hag 1 (by decide)
  refine l211 hL hM' hR (M' 56 52).toInt.toNat ρc cfr' (by omega) (by omega) ?_ hSc
  rw [q1, q2, e1, ← hs1]
  exact hq
end ABM
