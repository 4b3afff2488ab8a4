/-! TOOLS: calls out of a state of the analyzer, back to pairs of rows -/
def kpush (K : aKn) : aKn := (K.1 + 1, (K.1, aFull) :: K.2.1, K.2.2.1, [], K.2.2.2.2.1, [], [])
section ATM
variable {xs : Nat → Int32} {L : Nat} {prs : List (Nat × Nat)} {ρ : Nat → Int} {M : xM} {Q : xZ → Prop}
theorem aKok_push {K : aKn} {M' : xM} {ρ' : Nat → Int} {x : Int32} (h : aKok xs L prs aRws ρ' K M) (hR : aRk M') (hx : ρ' K.1 = x.toInt) : aKok xs L [] aRws ρ' (kpush K) M' := by
  obtain ⟨k1, k2, k3, k4, k5, k6, k7, k8⟩ := h
  refine ⟨Nat.succ_pos _, k2, aok_cons k3 ?_ ?_, k4, fun q hq => (by cases hq), k6, fun j pr hj => (by cases hj), fun j r hj i => Or.inl (hR j r hj i)⟩
  · show aFull.1 ≤ ρ' K.1
    rw [hx]
    exact (aFull_of x).1
  · show ρ' K.1 ≤ aFull.2
    rw [hx]
    exact (aFull_of x).2
/-- a call of a method that answers with a number -/
theorem call_cut {y pc z : Nat} {e : xEn} {pl : List (Option aV)} {sk as rest : List aV} {fs : List aFr} {K : aKn} {cfr : List cFr} (hI : xI y pc = some e) (hca : aca e sk = some (z, as, rest)) (hlen : Nat.ble (aargs as).length (xm z).2.2.1 = true) (hS : aHS xs L prs M K ρ ((y, pc, pl, sk) :: fs) cfr)
    (k : ∀ (asc : List Value) (R : xZ → Prop), astk ρ as asc → (∀ (x : Int32) (M' : xM), aRk M' → ∃ cfr', aHS xs L [] M' (kpush K) (apush ρ K.1 x.toInt) ((y, pc + 3, pl, .inl (aid K.1) :: rest) :: fs) cfr' ∧ (aGl xs L Q M' cfr' → R (some (.int x), 102, xsh0, M'))) → PL xs L z (0, xent z asc, [], 102, xsh0, M) R) : aGl xs L Q M cfr := by
  have h0 := hS ρ (agr_refl _ _)
  obtain ⟨plc, skc, m, ec, hl, hst, hnl⟩ := afrs_cons h0.2
  obtain ⟨asc, restc, hx, hx2⟩ := aca_of (xs := xs) (L := L) (y := y) (pc := pc) (plc := plc) (M := M) hca hst
  rw [ec]
  show PL xs L y (pc, plc, skc, 102, xsh0, M) _
  have hln : (xargs asc).length ≤ (xm z).2.2.1 := by
    rw [aloc_len (aargs_of (hx2 ρ hst).1)]
    exact Nat.le_of_ble_eq_true hlen
  refine PL.callL (by rw [xI_step hI]; exact hx) hln ?_
  refine k asc _ (hx2 ρ hst).1 (fun x M' hR' => ⟨(y, pc + 3, plc, .int x :: restc) :: m, fun ρ' hρ => ?_, fun h => ⟨rfl, h⟩⟩)
  have hρ0 : agr K.1 ρ ρ' := agr_trans (Nat.le_succ _) apush_agr hρ
  have hxx : ρ' K.1 = x.toInt := (hρ K.1 (Nat.lt_succ_self _)).trans apush_self
  have h := hS ρ' hρ0
  rw [ec] at h
  refine ⟨aKok_push h.1 hR' hxx, ⟨rfl, rfl, h.2.1.2.2.1, ?_, (hx2 ρ' h.2.1.2.2.2).2⟩, h.2.2⟩
  show x.toInt = aev ρ' (aid K.1)
  rw [aev_id, hxx]
/-- pairs of rows, cells and facts that hold -/
theorem aHS_prs {K : aKn} {fr : List aFr} {cfr : List cFr} {C : aC} {F : List aL} (hS : aHS xs L [] M K ρ fr cfr) (hp : ∀ (j : Nat) (pr : Nat × Nat), prs[j]? = some pr → ∀ i : Nat, M pr.1 i = M pr.2 i) (hR : aRk M) (hC : ∀ ρ', agr K.1 ρ ρ' → acc ρ' C M) (hF : ∀ ρ', agr K.1 ρ ρ' → afk ρ' F) : aHS xs L prs M (K.1, K.2.1, F ++ K.2.2.1, C, K.2.2.2.2.1, [], []) ρ fr cfr := by
  intro ρ' h
  obtain ⟨⟨k1, k2, k3, k4, k5, k6, k7, k8⟩, kf⟩ := hS ρ' h
  refine ⟨⟨k1, k2, k3, fun f hf => ?_, hC ρ' h, k6, fun j pr hj i => Or.inl (hp j pr hj i), fun j r hj i => Or.inl (hR j r hj i)⟩, kf⟩
  rcases List.mem_append.mp hf with hf | hf
  · exact hF ρ' h f hf
  · exact k4 f hf
theorem aHS.pr {K : aKn} {fr : List aFr} {cfr : List cFr} (hS : aHS xs L prs M K ρ fr cfr) (hD : K.2.2.2.2.2.1 = []) : ∀ (j : Nat) (pr : Nat × Nat), prs[j]? = some pr → ∀ i : Nat, M pr.1 i = M pr.2 i := fun j pr hj i => by
  rcases (hS ρ (agr_refl _ _)).1.2.2.2.2.2.2.1 j pr hj i with z | ⟨d, hd, -⟩
  · exact z
  · rw [hD] at hd
    cases hd
/-- a return of a boolean by the last frame -/
theorem ret_z {y pc len a b w : Nat} {pl : List (Option aV)} {K : aKn} {v : aL} {cfr : List cFr} (hI : xI y pc = some (.ireturn, len, a, b, w)) (hr : (xm y).2.2.2.1 = some .boolean) (hS : aHS xs L prs M K ρ [(y, pc, pl, [.inl v])] cfr) (hv : aev ρ v = 0 ∨ aev ρ v = 1) (k : ∀ x : Int32, x.toInt = aev ρ v → Q (some (.int x), 102, xsh0, M)) : aGl xs L Q M cfr := by
  obtain ⟨plc, skc, m, e, hl, hst, hnl⟩ := afrs_cons (hS ρ (agr_refl _ _)).2
  obtain ⟨v1, sk1, f1, g1, hst⟩ := astkC hst
  have f2 := astkN hst
  have f3 := afrs_nil hnl
  obtain ⟨x1, a1, d1⟩ := avalI g1
  subst a1; subst f2; subst f3; subst f1
  rw [e]
  show PL xs L y (pc, plc, [.int x1], 102, xsh0, M) _
  refine PL.ret (v := some (.int x1)) ?_ (k x1 d1)
  rw [xI_step hI]
  show xo_iret (xm y).2.2.2.1 (pc, plc, [.int x1], 102, xsh0, M) = _
  rw [hr]
  have hx : x1 = 0 ∨ x1 = 1 := by
    rcases hv with h | h
    · exact Or.inl (Int32.toInt_inj.mp (by rw [d1, h]; rfl))
    · exact Or.inr (Int32.toInt_inj.mp (by rw [d1, h]; rfl))
  rcases hx with h | h <;> (subst h; rfl)
end ATM
section ATP
variable {xs : Nat → Int32} {L : Nat} {prs : List (Nat × Nat)} {ρ : Nat → Int} {M : xM} {Q : xZ → Prop}
theorem aHS_E {K : aKn} {fr : List aFr} {cfr : List cFr} {E : aE} (hS : aHS xs L prs M K ρ fr cfr) (hE : ∀ ρ', agr K.1 ρ ρ' → aok ρ' E) : aHS xs L prs M (K.1, E ++ K.2.1, K.2.2) ρ fr cfr := by
  intro ρ' h
  obtain ⟨⟨k1, k2, k3, k4⟩, kf⟩ := hS ρ' h
  refine ⟨⟨k1, k2, fun t ht => ?_, k4⟩, kf⟩
  rcases List.mem_append.mp ht with ht | ht
  · exact hE ρ' h t ht
  · exact k3 t ht
/-- numbers by forms -/
def aints (n : Nat) (as : List aV) : Bool := as.all (fun a => match a with
  | .inl l => awl n l
  | _ => false)
theorem astk_det {n : Nat} {ρ' : Nat → Int} (ha : agr n ρ ρ') : ∀ {as : List aV} {vs vs' : List Value}, aints n as = true → astk ρ as vs → astk ρ' as vs' → vs' = vs
  | [], [], [], _, _, _ => rfl
  | a :: as, v :: vs, v' :: vs', h, h1, h2 => by
    unfold aints at h
    rw [List.all_cons, Bool.and_eq_true] at h
    rw [astk_det ha (as := as) h.2 h1.2 h2.2]
    match a, h with
    | .inl l, h =>
      obtain ⟨x, e, hx⟩ := avalI h1.1
      obtain ⟨x', e', hx'⟩ := avalI h2.1
      subst e; subst e'
      rw [awl_of ha h.1, ← hx] at hx'
      rw [Int32.toInt_inj.mp hx']
/-- a call of the class and then one of the reference with the same numbers, in the law: from memory M over M1 to M2, both answer v -/
def aTwo (xs : Nat → Int32) (L zc zm : Nat) (vs : List Value) (v : Int32) (M M1 M2 : xM) : Prop := (∀ R : xZ → Prop, R (some (.int v), 102, xsh0, M1) → PL xs L zc (0, xent zc (.ref 0 :: vs), [], 102, xsh0, M) R) ∧ (∀ R : xZ → Prop, R (some (.int v), 102, xsh0, M2) → PL xs L zm (0, xent zm (.ref 56 :: vs), [], 102, xsh0, M1) R) ∧ aInv M1 ∧ aRk M1 ∧ aInv M2 ∧ aRk M2
def kB2 (n : Nat) (KB : aKn) (C : aC) : aKn := (KB.1 + 1, (KB.1, aFull) :: KB.2.1, [asub (aid n) (aid KB.1), asub (aid KB.1) (aid n)] ++ KB.2.2.1, C, KB.2.2.2.2.1, [], [])
theorem law_pair {cts : List aCt} {w : aW} {heads : List aCut} {M0 : xM} {res : Option (Int × Int)} {zc zm pcA pcB N : Nat} {eA eB : xEn} {pl : List (Option aV)} {as tail : List aV} {KH KB : aKn} {C : aC} {ms : List aL} {cfr : List cFr} (hp : ∀ pr ∈ prs, pr.1 ≠ pr.2) (hL : L ≤ 2560) (hct : ∀ c ∈ cts, aCon xs L c) (hQ : ∀ r, aPost res w M0 r → Q r)
    (hIA : xI 231 pcA = some eA) (hcA : aca eA (as.reverse ++ [.inr (.inr (.inl 0))]) = some (zc, .inr (.inr (.inl 0)) :: as, [])) (hlA : Nat.ble (aargs (.inr (.inr (.inl 0)) :: as)).length (xm zc).2.2.1 = true)
    (hIB : xI 231 pcB = some eB) (hcB : aca eB (as.reverse ++ .inr (.inr (.inl 56)) :: tail) = some (zm, .inr (.inr (.inl 56)) :: as, tail)) (hlB : Nat.ble (aargs (.inr (.inr (.inl 56)) :: as)).length (xm zm).2.2.1 = true)
    (hr1 : arunG [] [] ([], []) [([(231, pcB, pl, as.reverse ++ .inr (.inr (.inl 56)) :: tail)], KB)] (KH.1 + 1) (some (1, 0)) N [(231, pcA + 3, pl, [.inl (aid KH.1)])] (kpush KH) = true)
    (hr2 : arunH prs cts w heads 1 (some ms) res N [(231, pcB + 3, pl, .inl (aid KB.1) :: tail)] (kB2 KH.1 KB C) = true)
    (has : aints KH.1 as = true) (hms : ms.all (awl KH.1) = true) (hn : Nat.ble (KH.1 + 1) KB.1 = true)
    (hIH : ∀ c' ∈ heads, ∀ (ρ' : Nat → Int) (M' : xM) (cfr' : List cFr), alt (c'.2.2.map (fun m => (aev ρ' m).toNat)) (ms.map (fun m => (aev ρ m).toNat)) → aHS xs L prs M' c'.2.1 ρ' c'.1 cfr' → aInv M' → aUnw w M0 M' → aGl xs L Q M' cfr')
    (hS : aHS xs L prs M KH ρ [(231, pcA, pl, as.reverse ++ [.inr (.inr (.inl 0))])] cfr)
    (hstep : ∀ vs, astk ρ as vs → ∃ v M1 M2, aTwo xs L zc zm vs v M M1 M2 ∧ (∀ (j : Nat) (pr : Nat × Nat), prs[j]? = some pr → ∀ i : Nat, M2 pr.1 i = M2 pr.2 i) ∧ (∀ ρ', agr KH.1 ρ ρ' → acc ρ' C M2) ∧ aUnw w M0 M2) : aGl xs L Q M cfr := by
  have hn := Nat.le_of_ble_eq_true hn
  refine call_cut hIA hcA hlA hS (fun asc R hasc hR => ?_)
  obtain ⟨v0, vs, e, h0, hvs⟩ := astkC hasc
  have e0 := aval_ref h0
  subst e0; subst e
  obtain ⟨v, M1, M2, ⟨hc, hm, hM1, hRk1, hM2, hRk2⟩, hpr, hC, hU2⟩ := hstep vs hvs
  refine hc R ?_
  obtain ⟨cfr1, hS1, go1⟩ := hR v M1 hRk1
  refine go1 ?_
  refine arunG_of (ρ0 := apush ρ KH.1 v.toInt) (g := KH.1 + 1) (M0 := M1) prs0 hL allc0 (fun r h => aPost_no h) ?_ N _ _ _ M1 cfr1 hr1 hS1 hM1 (aUnw.refl _ _) (Nat.le_refl _) (agr_refl _ _)
  intro c hcc ρ' M' cfr' hS' hM' hU' hag
  have ec := List.mem_singleton.mp hcc
  subst ec
  have eM := aUnw_nil hU'
  subst eM
  have hag0 : agr KH.1 ρ ρ' := agr_trans (Nat.le_succ _) apush_agr hag
  refine call_cut hIB hcB hlB hS' (fun asc' R' hasc' hR' => ?_)
  obtain ⟨v0', vs', e', h0', hvs'⟩ := astkC hasc'
  have e0' := aval_ref h0'
  subst e0'; subst e'
  have evs := astk_det hag0 has hvs hvs'
  subst evs
  refine hm R' ?_
  obtain ⟨cfr2, hS2, go2⟩ := hR' v M2 hRk2
  refine go2 ?_
  have hagr : ∀ ρ'', agr (KB.1 + 1) (apush ρ' KB.1 v.toInt) ρ'' → agr KH.1 ρ ρ'' ∧ ρ'' KH.1 = v.toInt ∧ ρ'' KB.1 = v.toInt := fun ρ'' h => by
    have h1 : agr KB.1 ρ' ρ'' := agr_trans (Nat.le_succ _) apush_agr h
    refine ⟨fun k hk => ?_, ?_, (h KB.1 (Nat.lt_succ_self _)).trans apush_self⟩
    · rw [h1 k (by omega)]
      exact hag0 k hk
    · rw [h1 KH.1 (by omega), hag KH.1 (Nat.lt_succ_self _)]
      exact apush_self
  have hS3 := aHS_prs (prs := prs) (C := C) (F := [asub (aid KH.1) (aid KB.1), asub (aid KB.1) (aid KH.1)]) hS2 hpr hRk2 (fun ρ'' h => hC ρ'' (hagr ρ'' h).1) (fun ρ'' h f hf => by
    obtain ⟨-, h1, h2⟩ := hagr ρ'' h
    simp only [List.mem_cons, List.not_mem_nil, or_false] at hf
    rcases hf with e | e <;> (subst e; rw [aev_sub, aev_id, aev_id, h1, h2]; omega))
  refine arunH_of (ρ0 := apush ρ' KB.1 v.toInt) (g := 1) (M0 := M0) (ms := some ms) (v := ms.map (fun m => (aev ρ m).toNat)) hp hL hct hQ ?_ N _ _ _ M2 cfr2 hr2 hS3 hM2 hU2 (Nat.succ_le_succ (Nat.zero_le _)) (agr_refl _ _) ?_
  · intro c' hc' ρ3 M3 cfr3 hS3' hM3 hU3 _ ha
    rcases ha with ha | ha
    · cases ha
    · exact hIH c' hc' ρ3 M3 cfr3 ha hS3' hM3 hU3
  · intro os hos ρ3 h3
    cases hos
    exact List.map_congr_left (fun m hm' => by rw [awl_of (hagr ρ3 h3).1 (List.all_eq_true.mp hms m hm')])
end ATP
