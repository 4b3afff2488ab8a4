section AVW
variable {xs : Nat → Int32} {L : Nat}
theorem U97_of {prs : List (Nat × Nat)} {ρ : Nat → Int} {M : xM} {K : aKn} {fr : List aFr} {cfr : List cFr} {cs : List Int} (hS : aHS xs L prs M K ρ fr cfr) (hU : K.2.2.2.2.1 = U97 cs) : ∀ c ∈ cs, ρ 4 ≠ c := by
  intro c hc
  have u := hS.un (q := ((21, aco c, aid 4), aco 0)) (by rw [hU]; exact List.mem_map.mpr ⟨c, hc, rfl⟩)
  unfold aun1 at u
  rw [if_neg (show ¬ (21 : Nat) = 20 by decide), if_pos rfl] at u
  dsimp only at u
  rw [aev_co, aev_id] at u
  exact fun h => u h.symm
theorem wrd_no {b : Nat → Int} {T : Int} {s : tSt} : ∀ {ws : List (List Int)}, (∀ w ∈ ws, nxt b T s ≠ w.headD (-2)) → wrd b T ws s = (s.1, true)
  | [], _ => rfl
  | w :: ws, h => by
    unfold wrd
    rw [if_neg (h w (List.mem_cons_self ..))]
    exact wrd_no (fun w' hw' => h w' (List.mem_cons_of_mem _ hw'))
theorem wrd_at {b : Nat → Int} {T : Int} {s : tSt} {w : List Int} : ∀ {ws : List (List Int)} {k : Nat}, ws[k]? = some w → (∀ i w', ws[i]? = some w' → i < k → w'.headD (-2) ≠ w.headD (-2)) → nxt b T s = w.headD (-2) → wrd b T ws s = txt b T w s
  | [], _, h, _, _ => by cases h
  | v :: ws, 0, h, _, hn => by
    cases h
    unfold wrd
    rw [if_pos hn]
  | v :: ws, k + 1, h, hd, hn => by
    unfold wrd
    rw [if_neg (by rw [hn]; exact fun e => hd 0 v rfl (Nat.succ_pos k) e.symm)]
    exact wrd_at (ws := ws) (k := k) h (fun i w' h1 h2 => hd (i + 1) w' h1 (Nat.succ_lt_succ h2)) hn
/-- words: their numbers, where they begin, their letters -/
theorem f97_ (hL : L ≤ 2560) {j N : Nat} {ws : List (Nat × Nat × List Int)} (hr : r97 j (ws.map (fun w => (w.1, w.2.1, w.2.2.headD (-2)))) N = true) (hq : q97 j ((ws.map (fun w => (w.1, w.2.1, w.2.2.headD (-2)))).map (fun w => w.2.2)) = true) (hm : ws.all (fun w => m97 j w.1 w.2.1 (w.2.2.headD (-2)) && (s99 j w.2.1 w.2.2 && Nat.ble w.1 7)) = true) (hj : Nat.ble 1000 j && Nat.ble (j + 1) 1008 = true) (hneg : ∀ w ∈ ws, w.2.2.headD (-2) ≠ -1)
    (hat_ : ∀ w ∈ ws, ∃ k : Nat, (ws.map (fun w => w.2.2))[k]? = some w.2.2 ∧ ∀ (i : Nat) (w' : List Int), (ws.map (fun w => w.2.2))[i]? = some w' → i < k → w'.headD (-2) ≠ w.2.2.headD (-2)) : cOp xs L 97 [.ref 15, .ref j] (fun b T s => wrd b T (ws.map (fun w => w.2.2)) s) (fun v => ∃ x : Int32, v = some (.int x) ∧ (x.toInt = 0 ∨ ∃ w ∈ ws, x.toInt = w.1)) := by
  intro M Q hM hR hk hQ
  obtain ⟨ρ1, hS0⟩ := aentry (xs := xs) (c := (97, [.inr (.inr 15), .inr (.inr j)], [], none, wT)) (as := [.ref 15, .ref j]) hL hR ⟨rfl, rfl, trivial⟩
  have hS0 : aHS xs L [] M k1_ ρ1 [(97, 0, [R_ 15, R_ j, none, none, none], [])] [(97, 0, xent 97 [.ref 15, .ref j], [])] := hS0
  obtain ⟨ρ2, hS, hag0, hT, hA, hF, hB⟩ := k4c_of hM hk hS0
  have hT : ρ2 1 = tT M := hT
  have hA : ρ2 2 = (M 15 2).toInt := hA
  have hF : ρ2 3 = (M 15 3).toInt := hF
  have hB : ρ2 4 = tB M (M 15 2).toInt.toNat := hB
  unfold q97 at hq
  rw [Bool.and_eq_true, Bool.and_eq_true] at hq
  show aGl xs L Q M [(97, 0, xent 97 [.ref 15, .ref j], [])]
  have fault : ∀ {K : aKn} {fr : List aFr} {cfr2 : List cFr} {ρ3 : Nat → Int}, ρ3 2 = ρ2 2 → (∀ w ∈ ws, nxt (tB M) (tT M) (tS M) ≠ w.2.2.headD (-2)) → arunG [] [] wT [z97 j] 5 (some (1, 0)) 100 fr K = true → K.1 = 5 → aHS xs L [] M K ρ3 fr cfr2 → aGl xs L Q M cfr2 := by
    intro K fr cfr2 ρ3 h3 hsg hr hK hS2
    refine arunG_of (ρ0 := ρ3) (g := 5) (M0 := M) prs0 hL allc0 (fun r h => aPost_no h) ?_ 100 _ _ ρ3 M cfr2 hr hS2 hM (aUnw.refl _ _) (by rw [hK]; exact Nat.le_refl _) (agr_refl _ _)
    intro c' hc' ρ4 M4 cfr4 hS4 hM4 hU4 hag4
    have ec := List.mem_singleton.mp hc'
    subst ec
    have c2 := cell_f (p := 15) (b := 2) (k := 2) hS4 (List.mem_cons_self ..)
    have c3 := (hS4.ce (q := ((15, aco 3), aco 1)) (List.mem_cons_of_mem _ (List.mem_cons_self ..))).2
    dsimp only at c3
    rw [aev_co, aev_co] at c3
    have c3 : (M4 15 3).toInt = 1 := c3
    have u3 : ρ4 2 = ρ3 2 := hag4 2 (by decide)
    refine ret_i (y := 97) (pc := 76) rfl rfl hS4 (fun x hx => hQ (some (.int x)) M4 hM4 (hS4.rk rfl) (wT_ok hU4 hk) hU4 ⟨x, rfl, Or.inl (by rw [hx, aev_co])⟩ ?_)
    have hw := wrd_no (b := tB M) (T := tT M) (s := tS M) (ws := ws.map (fun w => w.2.2)) (fun w hw => by
      obtain ⟨w0, h1, h2⟩ := List.mem_map.mp hw
      subst h2
      exact hsg w0 h1)
    show tS M4 = wrd (tB M) (tT M) (ws.map (fun w => w.2.2)) (tS M)
    rw [hw]
    unfold tS
    dsimp only
    rw [c3, c2, u3, h3, hA]
    rfl
  refine arunG_of (ρ0 := ρ2) (g := 5) (M0 := M) prs0 hL allc0 (fun r h => aPost_no h) ?_ N _ _ ρ2 M _ hr hS hM (aUnw.refl _ M) (by decide) (agr_refl _ _)
  intro c' hc' ρ' M' cfr' hS' hM' hU hag
  have eM : M' = M := aUnw_nil hU
  subst eM
  have e1 : ρ' 1 = ρ2 1 := hag 1 (by decide)
  have e2 : ρ' 2 = ρ2 2 := hag 2 (by decide)
  have e3 : ρ' 3 = ρ2 3 := hag 3 (by decide)
  have e4 : ρ' 4 = ρ2 4 := hag 4 (by decide)
  have hnB : ρ' 3 = 0 → ρ' 2 < ρ' 1 → nxt (tB M') (tT M') (tS M') = ρ' 4 := fun h3 h2 => by
    unfold nxt tS
    rw [if_pos]
    · dsimp only
      rw [e4, hB]
    · dsimp only
      exact ⟨decide_eq_false (by omega), by omega⟩
  rcases List.mem_append.mp hc' with hc' | hc'
  · simp only [List.mem_cons, List.not_mem_nil, or_false] at hc'
    rcases hc' with e | e | e
    · subst e
      have b3 := hS'.bd (t := (3, (1, 1))) (List.mem_append_right _ (List.mem_cons_self ..))
      dsimp only at b3
      have hn : nxt (tB M') (tT M') (tS M') = -1 := by
        unfold nxt tS
        rw [if_neg]
        dsimp only
        rw [decide_eq_true (show (M' 15 3).toInt = 1 by omega)]
        exact fun h => by cases h.1
      exact fault e2 (fun w hw => by rw [hn]; exact fun z => hneg w hw z.symm) hq.1 rfl hS'
    · subst e
      have f1 := le_of (hS'.fa (f := le_ 1 2) (List.mem_cons_self ..))
      have hn : nxt (tB M') (tT M') (tS M') = -1 := by
        unfold nxt tS
        rw [if_neg]
        dsimp only
        exact fun h => by have := h.2; omega
      exact fault e2 (fun w hw => by rw [hn]; exact fun z => hneg w hw z.symm) hq.2.1 rfl hS'
    · subst e
      have b3 := hS'.bd (t := (3, (0, 0))) (List.mem_append_right _ (List.mem_cons_self ..))
      dsimp only at b3
      have f1 := lt_of (hS'.fa (f := lt_ 2 1) (List.mem_cons_self ..))
      have hu := U97_of (cs := (ws.map (fun w => (w.1, w.2.1, w.2.2.headD (-2)))).map (fun w => w.2.2)) hS' rfl
      refine fault e2 (fun w hw => ?_) hq.2.2 rfl hS'
      rw [hnB (by omega) f1]
      exact hu _ (List.mem_map.mpr ⟨_, List.mem_map.mpr ⟨w, hw, rfl⟩, rfl⟩)
  · obtain ⟨w3, hw3, ec⟩ := List.mem_map.mp hc'
    obtain ⟨w, hw, ew⟩ := List.mem_map.mp hw3
    subst ew
    subst ec
    have hmw := List.all_eq_true.mp hm w hw
    rw [Bool.and_eq_true, Bool.and_eq_true] at hmw
    have b3 := hS'.bd (t := (3, (0, 0))) (List.mem_cons_of_mem _ (List.mem_cons_of_mem _ (List.mem_cons_of_mem _ (List.mem_cons_self ..))))
    have b4 := hS'.bd (t := (4, (w.2.2.headD (-2), w.2.2.headD (-2)))) (List.mem_cons_of_mem _ (List.mem_cons_of_mem _ (List.mem_cons_of_mem _ (List.mem_cons_of_mem _ (List.mem_cons_self ..)))))
    dsimp only at b3 b4
    have f1 := lt_of (hS'.fa (f := lt_ 2 1) (List.mem_cons_self ..))
    have hn : nxt (tB M') (tT M') (tS M') = w.2.2.headD (-2) := by
      rw [hnB (by omega) f1]
      omega
    obtain ⟨k, hk1, hk2⟩ := hat_ w hw
    have hwt := wrd_at (b := tB M') (T := tT M') (s := tS M') hk1 hk2 hn
    refine call_kv (z := 99) (as := [r_ 15, r_ j, .inl (aco w.2.1)]) (rest := []) wT rfl ?_ rfl hS' (fun asc R hasc hRR => ?_)
    · rfl
    · obtain ⟨v0, vs, g1, h0, hvs⟩ := astkC hasc
      obtain ⟨v1, vs1, g2, h1, hvs1⟩ := astkC hvs
      obtain ⟨v2, vs2, g3, h2, hvs2⟩ := astkC hvs1
      have e0' := aval_ref h0
      have e1' := aval_ref h1
      obtain ⟨x, a1, d1⟩ := avalI h2
      have g4 := astkN hvs2
      subst e0'; subst e1'; subst a1; subst g4; subst g3; subst g2; subst g1
      rw [aev_co] at d1
      refine f99_ hL hmw.2.1 d1 M' R hM hR hk (fun v M2 hM2 hR2 hk2 hU2 hv hs2 => ?_)
      subst hv
      obtain ⟨cfr2, hS2, go2⟩ := hRR M2 hR2 hU2
      refine go2 ?_
      refine arunG_of (ρ0 := ρ') (g := 1) (M0 := M2) prs0 hL allc0 (fun r h => aPost_no h) ?_ 100 _ _ ρ' M2 cfr2 hmw.1 hS2 hM2 (aUnw.refl _ _) (by show 1 ≤ 5; decide) (agr_refl _ _)
      intro c hc ρ4 M4 cfr4 hS4 hM4 hU4 hag4
      have ec := List.mem_singleton.mp hc
      subst ec
      have eM := aUnw_nil hU4
      subst eM
      refine ret_i (y := 97) (pc := 63) rfl rfl hS4 (fun x2 hx2 => hQ (some (.int x2)) M4 hM2 hR2 hk2 hU2 ⟨x2, rfl, Or.inr ⟨w, hw, by rw [hx2, aev_co]⟩⟩ ?_)
      show tS M4 = wrd (tB M') (tT M') (ws.map (fun w => w.2.2)) (tS M')
      rw [hwt, hs2]
end AVW
theorem d97_1000 : ∀ w ∈ ws1000, ∃ k : Nat, (ws1000.map (fun w => w.2.2))[k]? = some w.2.2 ∧ ∀ (i : Nat) (w' : List Int), (ws1000.map (fun w => w.2.2))[i]? = some w' → i < k → w'.headD (-2) ≠ w.2.2.headD (-2) := by
  intro w hw
  have hk : (ws1000.map (fun w => w.2.2))[w.1]? = some w.2.2 := by
    have : ∀ w ∈ ws1000, (ws1000.map (fun w => w.2.2))[w.1]? = some w.2.2 := by decide
    exact this w hw
  refine ⟨w.1, hk, fun i w' h1 h2 => ?_⟩
  have hd : ∀ w ∈ ws1000, ∀ i, i < w.1 → ((ws1000.map (fun w => w.2.2)).getD i []).headD (-2) ≠ w.2.2.headD (-2) := by decide
  have := hd w hw i h2
  rw [List.getD_eq_getElem?_getD, h1] at this
  exact this
theorem h97_1000 {xs : Nat → Int32} {L : Nat} (hL : L ≤ 2560) : cOp xs L 97 [.ref 15, .ref 1000] (fun b T s => wrd b T (ws1000.map (fun w => w.2.2)) s) (fun v => ∃ x : Int32, v = some (.int x) ∧ (x.toInt = 0 ∨ ∃ w ∈ ws1000, x.toInt = w.1)) := f97_ hL r97_1000 q97_1000 m97_1000 (by decide) (by decide) d97_1000
theorem d97_1006 : ∀ w ∈ ws1006, ∃ k : Nat, (ws1006.map (fun w => w.2.2))[k]? = some w.2.2 ∧ ∀ (i : Nat) (w' : List Int), (ws1006.map (fun w => w.2.2))[i]? = some w' → i < k → w'.headD (-2) ≠ w.2.2.headD (-2) := by
  intro w hw
  have hk : (ws1006.map (fun w => w.2.2))[w.1]? = some w.2.2 := by
    have : ∀ w ∈ ws1006, (ws1006.map (fun w => w.2.2))[w.1]? = some w.2.2 := by decide
    exact this w hw
  refine ⟨w.1, hk, fun i w' h1 h2 => ?_⟩
  have hd : ∀ w ∈ ws1006, ∀ i, i < w.1 → ((ws1006.map (fun w => w.2.2)).getD i []).headD (-2) ≠ w.2.2.headD (-2) := by decide
  have := hd w hw i h2
  rw [List.getD_eq_getElem?_getD, h1] at this
  exact this
theorem h97_1006 {xs : Nat → Int32} {L : Nat} (hL : L ≤ 2560) : cOp xs L 97 [.ref 15, .ref 1006] (fun b T s => wrd b T (ws1006.map (fun w => w.2.2)) s) (fun v => ∃ x : Int32, v = some (.int x) ∧ (x.toInt = 0 ∨ ∃ w ∈ ws1006, x.toInt = w.1)) := f97_ hL r97_1006 q97_1006 m97_1006 (by decide) (by decide) d97_1006
theorem d97_1007 : ∀ w ∈ ws1007, ∃ k : Nat, (ws1007.map (fun w => w.2.2))[k]? = some w.2.2 ∧ ∀ (i : Nat) (w' : List Int), (ws1007.map (fun w => w.2.2))[i]? = some w' → i < k → w'.headD (-2) ≠ w.2.2.headD (-2) := by
  intro w hw
  have hk : (ws1007.map (fun w => w.2.2))[w.1]? = some w.2.2 := by
    have : ∀ w ∈ ws1007, (ws1007.map (fun w => w.2.2))[w.1]? = some w.2.2 := by decide
    exact this w hw
  refine ⟨w.1, hk, fun i w' h1 h2 => ?_⟩
  have hd : ∀ w ∈ ws1007, ∀ i, i < w.1 → ((ws1007.map (fun w => w.2.2)).getD i []).headD (-2) ≠ w.2.2.headD (-2) := by decide
  have := hd w hw i h2
  rw [List.getD_eq_getElem?_getD, h1] at this
  exact this
theorem h97_1007 {xs : Nat → Int32} {L : Nat} (hL : L ≤ 2560) : cOp xs L 97 [.ref 15, .ref 1007] (fun b T s => wrd b T (ws1007.map (fun w => w.2.2)) s) (fun v => ∃ x : Int32, v = some (.int x) ∧ (x.toInt = 0 ∨ ∃ w ∈ ws1007, x.toInt = w.1)) := f97_ hL r97_1007 q97_1007 m97_1007 (by decide) (by decide) d97_1007
