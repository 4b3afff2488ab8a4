/-! THE ANALYZER, eleven: what a run that says true means -/
section ASO
variable {xs : Nat → Int32} {L : Nat} {prs : List (Nat × Nat)} {cts : List aCt} {w : aW} {cuts : List aCut} {ms : Option (List aL)} {res : Option (Int × Int)} {M0 : xM}
theorem afind_of {z : Nat} {as : List aV} {vs : List Value} {K : aKn} {M : xM} {ρ : Nat → Int} {r : Option (aCt × aKn)} (hK : aHK xs L prs M K ρ) (hs : ∀ ρ', agr K.1 ρ ρ' → astk ρ' as vs) : ∀ {cts : List aCt}, afind cts z as K = some r → ∃ c K1, r = some (c, K1) ∧ c ∈ cts ∧ c.1 = z ∧ aSame K K1 ∧ aHK xs L prs M K1 ρ ∧ aPvs c.2.1 vs ∧ ∀ t ∈ c.2.2.1, t.2 ≤ (M t.1.1 t.1.2).toInt
  | [], h => by cases h
  | c :: l, h => by
    have next : afind l z as K = some r → ∃ c' K1, r = some (c', K1) ∧ c' ∈ c :: l ∧ c'.1 = z ∧ aSame K K1 ∧ aHK xs L prs M K1 ρ ∧ aPvs c'.2.1 vs ∧ ∀ t ∈ c'.2.2.1, t.2 ≤ (M t.1.1 t.1.2).toInt := fun h' => by
      obtain ⟨c', K1, h1, h2, h3⟩ := afind_of hK hs h'
      exact ⟨c', K1, h1, List.mem_cons_of_mem _ h2, h3⟩
    unfold afind at h
    cases cz : Nat.beq c.1 z with
    | false => rw [cz] at h; exact next h
    | true =>
      rw [cz] at h
      dsimp only [cond_true] at h
      split at h
      · rename_i cs ps e1 e2
        split at h
        · rename_i K1 en
          cases h
          obtain ⟨K', e', s1, hK1, hc⟩ := aneed_of hK en
          cases e'
          have hc0 := hc ρ (agr_refl _ _)
          exact ⟨c, K1, rfl, List.mem_cons_self .., Nat.eq_of_beq_eq_true cz, s1, hK1, acargs_of e1 (fun f hf => hc0 f (List.mem_append_left _ hf)) (hs ρ (agr_refl _ _)), acpre_of (hK ρ (agr_refl _ _)).2.2.2.2.1 e2 (fun f hf => hc0 f (List.mem_append_right _ hf))⟩
        · rename_i en
          obtain ⟨K', e', -⟩ := aneed_of hK en
          cases e'
        · exact next h
      · exact next h
theorem ahavK_of {K : aKn} {M M' : xM} {w' : aW} {ρ : Nat → Int} (hp : prs.all (fun pr => !(awp w' pr.1) && !(awp w' pr.2)) = true) (hR : aRk M') (hU : aUnw w' M M') (hK : aHK xs L prs M K ρ) : aHK xs L prs M' (ahavK w' K) ρ := by
  intro ρ' hρ
  obtain ⟨k1, k2, k3, k4, k5, k6, k7, k8⟩ := hK ρ' hρ
  refine ⟨k1, k2, k3, k4, fun q hq => ?_, k6, ?_, ?_⟩
  · obtain ⟨h1, h2⟩ := List.mem_filter.mp hq
    have h3 := k5 q h1
    refine ⟨h3.1, ?_⟩
    rw [hU _ _ (akc_of h2 h3.1)]
    exact h3.2
  · intro j pr hj i
    have := List.all_eq_true.mp hp pr (List.mem_of_getElem? hj)
    rw [Bool.and_eq_true, Bool.not_eq_true', Bool.not_eq_true'] at this
    rw [hU _ _ (awp_of this.1), hU _ _ (awp_of this.2)]
    exact k7 j pr hj i
  · exact fun j r hj i => Or.inl (hR j r hj i)
theorem astk_apv {ρ : Nat → Int} {r : Option aL} {v : Option Value} {sk : List aV} {skc : List Value} (h : aretv ρ r v) (hs : astk ρ sk skc) : astk ρ (apv r sk) (v.toList ++ skc) := by
  match r, v, h with
  | none, none, _ => exact hs
  | some l, some (.int x), h => exact ⟨h, hs⟩
theorem arun_of (hp : ∀ pr ∈ prs, pr.1 ≠ pr.2) (hL : L ≤ 2560) (hct : ∀ c ∈ cts, aCon xs L c) {v : List Nat}
    (hcut : ∀ c ∈ cuts, ∀ (ρ : Nat → Int) (M : xM) (cfr : List cFr), aHS xs L prs M c.2.1 ρ c.1 cfr → aInv M → aUnw w M0 M → (ms = none ∨ alt (c.2.2.map (fun m => (aev ρ m).toNat)) v) → aGl xs L (aPost res w M0) M cfr) :
    ∀ (n : Nat) (fr : List aFr) (K : aKn) (ρ : Nat → Int) (M : xM) (cfr : List cFr), arun prs cts w cuts ms res n fr K = true → aHS xs L prs M K ρ fr cfr → aInv M → aUnw w M0 M → (∀ os, ms = some os → ∀ ρ', agr K.1 ρ ρ' → os.map (fun m => (aev ρ' m).toNat) = v) → aGl xs L (aPost res w M0) M cfr
  | 0, _, _, _, _, _, h, _, _, _, _ => by cases h
  | n + 1, [], _, _, _, _, h, _, _, _, _ => by cases h
  | n + 1, f :: fs, K, ρ, M, cfr, h, hS, hM, hU, hm => by
    have ih := arun_of hp hL hct hcut n
    unfold arun at h
    dsimp only at h
    rw [Bool.or_eq_true] at h
    rcases h with h | h
    · obtain ⟨c, hc, e⟩ := List.any_eq_true.mp h
      rw [Bool.and_eq_true] at e
      have e := e.2
      unfold acut1 acut2 at e
      rw [Bool.and_eq_true, Bool.and_eq_true] at e
      obtain ⟨e1, e2, e3⟩ := e
      obtain ⟨ρc, h1, h2⟩ := achK_of hS e1 e2
      refine hcut c hc ρc M cfr h1 hM hU ?_
      cases hms : ms with
      | none => exact Or.inl rfl
      | some os =>
        rw [hms] at e3
        dsimp only at e3
        split at e3
        · rename_i ns en
          have hEF := (hS ρ (agr_refl _ _)).1
          have ha := alex_of hEF.2.2.1 hEF.2.2.2.1 e3
          rw [asbs_of h2 en, hm os hms ρ (agr_refl _ _)] at ha
          exact Or.inr ha
        · cases e3
    · match cfr, hS with
      | [], hS => exact (hS ρ (agr_refl _ _)).2.elim
      | (y, pc, plc, skc) :: cfs, hS =>
        have hS0 := (hS ρ (agr_refl _ _)).2
        have ey : y = f.1 := hS0.1.1
        have epc : pc = f.2.1 := hS0.1.2.1
        subst ey; subst epc
        have hR : aHR xs L prs M K ρ f.2.2.1 f.2.2.2 plc skc := fun ρ' hρ => ⟨(hS ρ' hρ).1, (hS ρ' hρ).2.1.2.2.1, (hS ρ' hρ).2.1.2.2.2⟩
        have hfs : ∀ ρ', agr K.1 ρ ρ' → afrs ρ' fs cfs := fun ρ' hρ => (hS ρ' hρ).2.2
        show PL xs L f.1 (f.2.1, plc, skc, 102, xsh0, M) (acont xs L (aPost res w M0) cfs)
        split at h
        · cases h
        · rename_i e he
          have hst : ∀ {q}, xex xs L f.1 e (f.2.1, plc, skc, 102, xsh0, M) = some q → xstep xs L f.1 (f.2.1, plc, skc, 102, xsh0, M) = some q := fun hq => by
            unfold xstep
            dsimp only
            rw [he]
            exact hq
          split at h
          · rename_i z as rest hca
            obtain ⟨asc, restc, hx, hx2⟩ := aca_of (xs := xs) (L := L) (y := f.1) (pc := f.2.1) (plc := plc) (M := M) hca hR.s
            have has : ∀ ρ', agr K.1 ρ ρ' → astk ρ' as asc := fun ρ' hρ => (hx2 ρ' (hR ρ' hρ).2.2).1
            have hre : ∀ ρ', agr K.1 ρ ρ' → astk ρ' rest restc := fun ρ' hρ => (hx2 ρ' (hR ρ' hρ).2.2).2
            cases cl : Nat.ble (aargs as).length (xm z).2.2.1 with
            | false => rw [cl] at h; cases h
            | true =>
              rw [cl] at h
              have hlen : (xargs asc).length ≤ (xm z).2.2.1 := by
                rw [aloc_len (aargs_of (has ρ (agr_refl _ _)))]
                exact Nat.le_of_ble_eq_true cl
              dsimp only [cond_true] at h
              split at h
              · rename_i ef
                obtain ⟨c, K1, e', -⟩ := afind_of hR.kn has ef
                cases e'
              · rename_i c K1 ef
                obtain ⟨c', K1', e', hc, hz, s1, hK1, hpv, hpre⟩ := afind_of hR.kn has ef
                cases e'
                split at h
                · cases h
                · rename_i r K2 eh
                  unfold ahav at eh
                  cases cw : anil K1.2.2.2.2.2.2 && awsub c.2.2.2.2 w && prs.all (fun pr => !(awp c.2.2.2.2 pr.1) && !(awp c.2.2.2.2 pr.2)) with
                  | false => rw [cw] at eh; cases eh
                  | true =>
                    rw [cw] at eh
                    rw [Bool.and_eq_true, Bool.and_eq_true] at cw
                    dsimp only [cond_true] at eh
                    have hRk : aRk M := fun j r hj i => by
                      rcases (hK1 ρ (agr_refl _ _)).2.2.2.2.2.2.2 j r hj i with z | ⟨d, hd, -⟩
                      · exact z
                      · rw [anil_of cw.1.1] at hd
                        cases hd
                    refine PL.callL (hst hx) hlen ?_
                    have hcon := hct c hc M asc hM hRk hpv hpre
                    rw [hz] at hcon
                    refine hcon.imp (fun r' hr' => ?_)
                    obtain ⟨rv, rnz, rsh, rM⟩ := r'
                    obtain ⟨M', er, hM', hRk', hres, hU'⟩ := hr'
                    cases er
                    refine ⟨rfl, ?_⟩
                    have hK2 := ahavK_of cw.2 hRk' hU' hK1
                    have hUU : aUnw w M0 rM := hU.trans (fun p i e => hU' p i (awsub_of cw.1.2 e))
                    have fin : ∀ (ρ2 : Nat → Int), K.1 ≤ K2.1 → agr K.1 ρ ρ2 → (∀ ρ', agr K2.1 ρ2 ρ' → aKok xs L prs aRws ρ' K2 rM ∧ aretv ρ' r rv) → PL xs L f.1 (f.2.1 + 3, plc, rv.toList ++ restc, 102, xsh0, rM) (acont xs L (aPost res w M0) cfs) := by
                      intro ρ2 hn hag hk
                      refine ih ((f.1, f.2.1 + 3, f.2.2.1, apv r rest) :: fs) K2 ρ2 rM ((f.1, f.2.1 + 3, plc, rv.toList ++ restc) :: cfs) h (fun ρ' hρ => ?_) hM' hUU (fun os hos ρ' hρ => hm os hos ρ' (agr_trans hn hag hρ))
                      have hρ0 := agr_trans hn hag hρ
                      exact ⟨(hk ρ' hρ).1, ⟨rfl, rfl, (hR ρ' hρ0).2.1, astk_apv (hk ρ' hρ).2 (hre ρ' hρ0)⟩, hfs ρ' hρ0⟩
                    split at eh
                    · rename_i ers
                      cases eh
                      rw [ers] at hres
                      have erv : rv = none := by
                        cases rv with
                        | none => rfl
                        | some q => exact hres.elim
                      subst erv
                      exact fin ρ (by rw [← s1.1]; exact Nat.le_refl _) (agr_refl _ _) (fun ρ' hρ => ⟨hK2 ρ' hρ, trivial⟩)
                    · rename_i q ers
                      cases eh
                      rw [ers] at hres
                      match rv, hres with
                      | some (.int x), hres =>
                        obtain ⟨ρ2, g1, g2, g3⟩ := afr_of (q := q) (z := x.toInt) hK2 hres
                        have hn : (ahavK c.2.2.2.2 K1).1 = K.1 := s1.1
                        rw [hn] at g1 g2
                        exact fin ρ2 g1 g2 g3
              · refine PL.callL (hst hx) hlen ?_
                exact ih ((z, 0, axent z as, []) :: (f.1, f.2.1 + 3, f.2.2.1, rest) :: fs) K ρ M ((z, 0, xent z asc, []) :: (f.1, f.2.1 + 3, plc, restc) :: cfs) h (fun ρ' hρ => ⟨(hS ρ' hρ).1, ⟨rfl, rfl, axent_of (has ρ' hρ), trivial⟩, ⟨rfl, rfl, (hR ρ' hρ).2.1, hre ρ' hρ⟩, hfs ρ' hρ⟩) hM hU hm
          · split at h
            · rename_i r hrt
              obtain ⟨rv, hx, hx2⟩ := aret_of (xs := xs) (L := L) (y := f.1) (pc := f.2.1) (plc := plc) (hR.kn ρ (agr_refl _ _)) hrt hR.s
              refine PL.ret (hst hx) ?_
              split at h
              · match cfs, hfs with
                | [], _ =>
                  unfold aretok at h
                  rw [Bool.and_eq_true] at h
                  refine ⟨M, rfl, hM, fun j r' hj i => ?_, ?_, hU⟩
                  · rcases (hR.kn ρ (agr_refl _ _)).2.2.2.2.2.2.2 j r' hj i with z | ⟨d, hd, -⟩
                    · exact z
                    · rw [anil_of h.1] at hd
                      cases hd
                  · have h2 := h.2
                    have hv := hx2 ρ hR.s
                    split at h2
                    · match rv, hv with
                      | none, _ => exact trivial
                    · rename_i q l
                      match rv, hv with
                      | some (.int x), hv =>
                        have hb := abt_of (hR.kn ρ (agr_refl _ _)) h2
                        have hv : x.toInt = aev ρ l := hv
                        rw [← hv] at hb
                        exact hb
                    · cases h2
                | g :: gs, hfs => exact (hfs ρ (agr_refl _ _)).elim
              · rename_i g gs _x
                match cfs, hfs with
                | [], hfs => exact (hfs ρ (agr_refl _ _)).elim
                | (y', pc', plc', skc') :: cgs, hfs =>
                  have hf0 := hfs ρ (agr_refl _ _)
                  have ey : y' = g.1 := hf0.1.1
                  have epc : pc' = g.2.1 := hf0.1.2.1
                  subst ey; subst epc
                  refine ⟨rfl, ?_⟩
                  exact ih ((g.1, g.2.1, g.2.2.1, apv r g.2.2.2) :: gs) K ρ M ((g.1, g.2.1, plc', rv.toList ++ skc') :: cgs) h (fun ρ' hρ => ⟨(hS ρ' hρ).1, ⟨rfl, rfl, (hfs ρ' hρ).1.2.2.1, astk_apv (hx2 ρ' (hR ρ' hρ).2.2) (hfs ρ' hρ).1.2.2.2⟩, (hfs ρ' hρ).2⟩) hM hU hm
            · split at h
              · cases h
              · rename_i l hex
                obtain ⟨t, ht, ρ2, plc', skc', M', hx, hn, hag, hR', hM', hU'⟩ := aex_of (y := f.1) hp hL hex hM hR
                refine PL.next (hst hx) ?_
                exact ih ((f.1, t.1, t.2.1, t.2.2.1) :: fs) t.2.2.2 ρ2 M' ((f.1, t.1, plc', skc') :: cfs) (List.all_eq_true.mp h t ht) (fun ρ' hρ => ⟨(hR' ρ' hρ).1, ⟨rfl, rfl, (hR' ρ' hρ).2.1, (hR' ρ' hρ).2.2⟩, hfs ρ' (agr_trans hn hag hρ)⟩) hM' (hU.trans hU') (fun os hos ρ' hρ => hm os hos ρ' (agr_trans hn hag hρ))
end ASO
