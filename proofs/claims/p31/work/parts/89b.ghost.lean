/-! THE ANALYZER AS A STEP OF A PROOF BY HAND: a run to cuts that know the first ids of its start (ghosts), any goal at the end -/
abbrev aCutG : Type := List aFr × aKn
def abnU (σ : aSg) (U : aU) : aU → aSg
  | [] => σ
  | q :: l => abnU (match asb σ q.1.2.1, asb σ q.1.2.2 with
    | some x, some y => (match aulk U q.1.1 x y with
      | some v => abn σ q.2 v
      | none => σ)
    | _, _ => σ) U l
def achU (σ : aSg) (Uc U : aU) : Bool := Uc.all (fun q => match asb σ q.1.2.1, asb σ q.1.2.2 with
  | some x, some y => (match aulk U q.1.1 x y with
    | some v => achq σ q.2 v
    | none => false)
  | _, _ => false)
def achKU (σ : aSg) (Kc K : aKn) : Bool :=
  σ.all (fun t => Nat.ble (t.1 + 1) Kc.1) && (Nat.ble 1 Kc.1 && (achq σ (aid 0) (aid 0) &&
  (Kc.2.1.all (fun t => match alS σ t.1 with
    | some f => apr K.2.1 K.2.2.1 (asub f (aco t.2.2)) && apr K.2.1 K.2.2.1 (asub (aco t.2.1) f)
    | none => false) &&
  (Kc.2.2.1.all (fun f => match asb σ f with
    | some g => apr K.2.1 K.2.2.1 g
    | none => false) &&
  (Kc.2.2.2.1.all (fun q => match asb σ q.1.2 with
    | some l => (match acl K.2.2.2.1 q.1.1 l with
      | some v => achq σ q.2 v
      | none => false)
    | none => false) &&
  (achU σ Kc.2.2.2.2.1 K.2.2.2.2.1 && (anil K.2.2.2.2.2.1 && anil K.2.2.2.2.2.2)))))))
section ACG
variable {xs : Nat → Int32} {L : Nat} {prs : List (Nat × Nat)} {σ : aSg} {ρ ρ' : Nat → Int}
theorem achU_of (hσ : ∀ k f, alS σ k = some f → ρ' k = aev ρ f) {Uc U : aU} (hU : aun xs ρ U) (h : achU σ Uc U = true) : aun xs ρ' Uc := by
  intro q hq
  have h1 := List.all_eq_true.mp h q hq
  split at h1
  · rename_i x y ex ey
    split at h1
    · rename_i v ev
      have h2 := hU _ (aulk_of ev)
      have e1 := asb_of hσ ex
      have e2 := asb_of hσ ey
      have e3 := achq_of hσ h1
      unfold aun1 at h2 ⊢
      dsimp only at h2
      rw [e1, e2, ← e3] at h2
      exact h2
    · cases h1
  · cases h1
theorem achKU_of {Kc K : aKn} {M : xM} {fr frc : List aFr} {cfr : List cFr} (hK : aHS xs L prs M K ρ fr cfr) (hF : achF σ frc fr = true) (h : achKU σ Kc K = true) : ∃ ρc, aHS xs L prs M Kc ρc frc cfr ∧ ∀ k f, alS σ k = some f → ρc k = aev ρ f := by
  unfold achKU at h
  simp only [Bool.and_eq_true] at h
  obtain ⟨h1, h2, h3, h4, h5, h6, h7, h8, h9⟩ := h
  obtain ⟨⟨k1, k2, k3, k4, k5, k6, k7, k8⟩, kf⟩ := hK ρ (agr_refl _ _)
  rw [anil_of h8] at k7
  rw [anil_of h9] at k8
  let ρc : Nat → Int := fun k => match alS σ k with
    | some f => aev ρ f
    | none => 0
  have hc : ∀ k f, alS σ k = some f → ρc k = aev ρ f := fun k f e => by
    show (match alS σ k with
      | some f => aev ρ f
      | none => 0) = _
    rw [e]
  refine ⟨ρc, fun ρ' hρ => ?_, hc⟩
  have hσ : ∀ k f, alS σ k = some f → ρ' k = aev ρ f := fun k f e => by
    rw [hρ k (Nat.le_of_ble_eq_true (List.all_eq_true.mp h1 _ (alS_mem e)))]
    exact hc k f e
  have hpr : ∀ {f : aL}, apr K.2.1 K.2.2.1 f = true → aev ρ f ≤ 0 := fun h => apr_of k3 k4 h
  refine ⟨⟨Nat.le_of_ble_eq_true h2, ?_, fun t ht => ?_, fun f hf => ?_, fun q hq => ?_, ?_, ?_, ?_⟩, achF_of hσ hF kf⟩
  · have := achq_of hσ h3
    rw [aev_id, aev_id, k2] at this
    exact this
  · have := List.all_eq_true.mp h4 t ht
    split at this
    · rename_i f e
      rw [Bool.and_eq_true] at this
      have i1 := hpr this.1
      have i2 := hpr this.2
      rw [aev_sub, aev_co] at i1 i2
      rw [hσ _ _ e]
      omega
    · cases this
  · have := List.all_eq_true.mp h5 f hf
    split at this
    · rename_i g e
      rw [← asb_of hσ e]
      exact hpr this
    · cases this
  · have := List.all_eq_true.mp h6 q hq
    split at this
    · rename_i l e
      split at this
      · rename_i v ev
        have hv := k5 _ (acl_of ev)
        rw [← asb_of hσ e, achq_of hσ this]
        exact hv
      · cases this
    · cases this
  · exact achU_of hσ k6 h7
  · intro j pr hj i
    rcases k7 j pr hj i with e | ⟨d, hd, -⟩
    · exact Or.inl e
    · cases hd
  · intro j r hj i
    rcases k8 j r hj i with e | ⟨d, hd, -⟩
    · exact Or.inl e
    · cases hd
end ACG
def gseed (g : Nat) : aSg := (List.range g).map (fun k => (k, aid k))
def acutG2 (g : Nat) (c : aCutG) (fr : List aFr) (K : aKn) (σ : aSg) : Bool := achF σ c.1 fr && (achKU σ c.2 K && (List.range g).all (fun k => achq σ (aid k) (aid k)))
def acutG (g : Nat) (c : aCutG) (fr : List aFr) (K : aKn) : Bool := acutG2 g c fr K (abnU (abnC (abnF (gseed g) c.1 fr) K.2.2.2.1 c.2.2.2.2.1) K.2.2.2.2.1 c.2.2.2.2.2.1)
def arunG (prs : List (Nat × Nat)) (cts : List aCt) (w : aW) (cuts : List aCutG) (g : Nat) (res : Option (Int × Int)) : Nat → List aFr → aKn → Bool
  | 0, _, _ => false
  | n + 1, fr, K => match fr with
    | [] => false
    | f :: fs => cuts.any (fun c => akey c.1 (f :: fs) && acutG g c (f :: fs) K) || (match xI f.1 f.2.1 with
      | none => false
      | some e => match aca e f.2.2.2 with
        | some (z, as, rest) => bif Nat.ble (aargs as).length (xm z).2.2.1 then (match afind cts z as K with
          | some none => true
          | some (some (c, K1)) => (match ahav prs w c K1 with
            | none => false
            | some (r, K2) => arunG prs cts w cuts g res n ((f.1, f.2.1 + 3, f.2.2.1, apv r rest) :: fs) K2)
          | none => arunG prs cts w cuts g res n ((z, 0, axent z as, []) :: (f.1, f.2.1 + 3, f.2.2.1, rest) :: fs) K) else false
        | none => (match aret f.1 e f.2.2.2 K with
          | some r => (match fs with
            | [] => aretok res r K
            | g' :: gs => arunG prs cts w cuts g res n ((g'.1, g'.2.1, g'.2.2.1, apv r g'.2.2.2) :: gs) K)
          | none => (match aex prs w e f.2.1 f.2.2.1 f.2.2.2 K with
            | none => false
            | some l => l.all (fun t => arunG prs cts w cuts g res n ((f.1, t.1, t.2.1, t.2.2.1) :: fs) t.2.2.2))))
section ASG
variable {xs : Nat → Int32} {L : Nat} {prs : List (Nat × Nat)} {cts : List aCt} {w : aW} {cuts : List aCutG} {g : Nat} {res : Option (Int × Int)} {M0 : xM} {Q : xZ → Prop} {ρ0 : Nat → Int}
theorem arunG_of (hp : ∀ pr ∈ prs, pr.1 ≠ pr.2) (hL : L ≤ 2560) (hct : ∀ c ∈ cts, aCon xs L c) (hQ : ∀ r, aPost res w M0 r → Q r)
    (hcut : ∀ c ∈ cuts, ∀ (ρ : Nat → Int) (M : xM) (cfr : List cFr), aHS xs L prs M c.2 ρ c.1 cfr → aInv M → aUnw w M0 M → agr g ρ0 ρ → aGl xs L Q M cfr) :
    ∀ (n : Nat) (fr : List aFr) (K : aKn) (ρ : Nat → Int) (M : xM) (cfr : List cFr), arunG prs cts w cuts g res n fr K = true → aHS xs L prs M K ρ fr cfr → aInv M → aUnw w M0 M → g ≤ K.1 → agr g ρ0 ρ → aGl xs L Q M cfr
  | 0, _, _, _, _, _, h, _, _, _, _, _ => by cases h
  | n + 1, [], _, _, _, _, h, _, _, _, _, _ => by cases h
  | n + 1, f :: fs, K, ρ, M, cfr, h, hS, hM, hU, hg, hm => by
    have ih := arunG_of hp hL hct hQ hcut n
    unfold arunG at h
    dsimp only at h
    rw [Bool.or_eq_true] at h
    rcases h with h | h
    · obtain ⟨c, hc, e⟩ := List.any_eq_true.mp h
      rw [Bool.and_eq_true] at e
      have e := e.2
      unfold acutG acutG2 at e
      rw [Bool.and_eq_true, Bool.and_eq_true] at e
      obtain ⟨e1, e2, e3⟩ := e
      obtain ⟨ρc, h1, h2⟩ := achKU_of hS e1 e2
      refine hcut c hc ρc M cfr h1 hM hU (fun k hk => ?_)
      have h3 := achq_of h2 (List.all_eq_true.mp e3 k (List.mem_range.mpr hk))
      rw [aev_id, aev_id] at h3
      rw [h3]
      exact hm k hk
    · match cfr, hS with
      | [], hS => exact (hS ρ (agr_refl _ _)).2.elim
      | (y, pc, plc, skc) :: cfs, hS =>
        have hS0 := (hS ρ (agr_refl _ _)).2
        have ey : y = f.1 := hS0.1.1
        have epc : pc = f.2.1 := hS0.1.2.1
        subst ey; subst epc
        have hR : aHR xs L prs M K ρ f.2.2.1 f.2.2.2 plc skc := fun ρ' hρ => ⟨(hS ρ' hρ).1, (hS ρ' hρ).2.1.2.2.1, (hS ρ' hρ).2.1.2.2.2⟩
        have hfs : ∀ ρ', agr K.1 ρ ρ' → afrs ρ' fs cfs := fun ρ' hρ => (hS ρ' hρ).2.2
        show PL xs L f.1 (f.2.1, plc, skc, 102, xsh0, M) (acont xs L Q cfs)
        split at h
        · cases h
        · rename_i e he
          have hst : ∀ {q}, xex xs L f.1 e (f.2.1, plc, skc, 102, xsh0, M) = some q → xstep xs L f.1 (f.2.1, plc, skc, 102, xsh0, M) = some q := fun hq => by
            unfold xstep
            dsimp only
            rw [he]
            exact hq
          split at h
          · rename_i z as rest hca
            obtain ⟨asc, restc, hx, hx2⟩ := aca_of (xs := xs) (L := L) (y := f.1) (pc := f.2.1) (plc := plc) (M := M) hca hR.s
            have has : ∀ ρ', agr K.1 ρ ρ' → astk ρ' as asc := fun ρ' hρ => (hx2 ρ' (hR ρ' hρ).2.2).1
            have hre : ∀ ρ', agr K.1 ρ ρ' → astk ρ' rest restc := fun ρ' hρ => (hx2 ρ' (hR ρ' hρ).2.2).2
            cases cl : Nat.ble (aargs as).length (xm z).2.2.1 with
            | false => rw [cl] at h; cases h
            | true =>
              rw [cl] at h
              have hlen : (xargs asc).length ≤ (xm z).2.2.1 := by
                rw [aloc_len (aargs_of (has ρ (agr_refl _ _)))]
                exact Nat.le_of_ble_eq_true cl
              dsimp only [cond_true] at h
              split at h
              · rename_i ef
                obtain ⟨c, K1, e', -⟩ := afind_of hR.kn has ef
                cases e'
              · rename_i c K1 ef
                obtain ⟨c', K1', e', hc, hz, s1, hK1, hpv, hpre⟩ := afind_of hR.kn has ef
                cases e'
                split at h
                · cases h
                · rename_i r K2 eh
                  unfold ahav at eh
                  cases cw : anil K1.2.2.2.2.2.2 && awsub c.2.2.2.2 w && prs.all (fun pr => !(awp c.2.2.2.2 pr.1) && !(awp c.2.2.2.2 pr.2)) with
                  | false => rw [cw] at eh; cases eh
                  | true =>
                    rw [cw] at eh
                    rw [Bool.and_eq_true, Bool.and_eq_true] at cw
                    dsimp only [cond_true] at eh
                    have hRk : aRk M := fun j r hj i => by
                      rcases (hK1 ρ (agr_refl _ _)).2.2.2.2.2.2.2 j r hj i with z | ⟨d, hd, -⟩
                      · exact z
                      · rw [anil_of cw.1.1] at hd
                        cases hd
                    refine PL.callL (hst hx) hlen ?_
                    have hcon := hct c hc M asc hM hRk hpv hpre
                    rw [hz] at hcon
                    refine hcon.imp (fun r' hr' => ?_)
                    obtain ⟨rv, rnz, rsh, rM⟩ := r'
                    obtain ⟨M', er, hM', hRk', hres, hU'⟩ := hr'
                    cases er
                    refine ⟨rfl, ?_⟩
                    have hK2 := ahavK_of cw.2 hRk' hU' hK1
                    have hUU : aUnw w M0 rM := hU.trans (fun p i e => hU' p i (awsub_of cw.1.2 e))
                    have fin : ∀ (ρ2 : Nat → Int), K.1 ≤ K2.1 → agr K.1 ρ ρ2 → (∀ ρ', agr K2.1 ρ2 ρ' → aKok xs L prs aRws ρ' K2 rM ∧ aretv ρ' r rv) → PL xs L f.1 (f.2.1 + 3, plc, rv.toList ++ restc, 102, xsh0, rM) (acont xs L Q cfs) := by
                      intro ρ2 hn hag hk
                      refine ih ((f.1, f.2.1 + 3, f.2.2.1, apv r rest) :: fs) K2 ρ2 rM ((f.1, f.2.1 + 3, plc, rv.toList ++ restc) :: cfs) h (fun ρ' hρ => ?_) hM' hUU (Nat.le_trans hg hn) (agr_trans (Nat.le_refl _) hm (fun k hk => hag k (Nat.lt_of_lt_of_le hk hg)))
                      have hρ0 := agr_trans hn hag hρ
                      exact ⟨(hk ρ' hρ).1, ⟨rfl, rfl, (hR ρ' hρ0).2.1, astk_apv (hk ρ' hρ).2 (hre ρ' hρ0)⟩, hfs ρ' hρ0⟩
                    split at eh
                    · rename_i ers
                      cases eh
                      rw [ers] at hres
                      have erv : rv = none := by
                        cases rv with
                        | none => rfl
                        | some q => exact hres.elim
                      subst erv
                      exact fin ρ (by rw [← s1.1]; exact Nat.le_refl _) (agr_refl _ _) (fun ρ' hρ => ⟨hK2 ρ' hρ, trivial⟩)
                    · rename_i q ers
                      cases eh
                      rw [ers] at hres
                      match rv, hres with
                      | some (.int x), hres =>
                        obtain ⟨ρ2, g1, g2, g3⟩ := afr_of (q := q) (z := x.toInt) hK2 hres
                        have hn : (ahavK c.2.2.2.2 K1).1 = K.1 := s1.1
                        rw [hn] at g1 g2
                        exact fin ρ2 g1 g2 g3
              · refine PL.callL (hst hx) hlen ?_
                exact ih ((z, 0, axent z as, []) :: (f.1, f.2.1 + 3, f.2.2.1, rest) :: fs) K ρ M ((z, 0, xent z asc, []) :: (f.1, f.2.1 + 3, plc, restc) :: cfs) h (fun ρ' hρ => ⟨(hS ρ' hρ).1, ⟨rfl, rfl, axent_of (has ρ' hρ), trivial⟩, ⟨rfl, rfl, (hR ρ' hρ).2.1, hre ρ' hρ⟩, hfs ρ' hρ⟩) hM hU hg hm
          · split at h
            · rename_i r hrt
              obtain ⟨rv, hx, hx2⟩ := aret_of (xs := xs) (L := L) (y := f.1) (pc := f.2.1) (plc := plc) (hR.kn ρ (agr_refl _ _)) hrt hR.s
              refine PL.ret (hst hx) ?_
              split at h
              · match cfs, hfs with
                | [], _ =>
                  unfold aretok at h
                  rw [Bool.and_eq_true] at h
                  refine hQ _ ⟨M, rfl, hM, fun j r' hj i => ?_, ?_, hU⟩
                  · rcases (hR.kn ρ (agr_refl _ _)).2.2.2.2.2.2.2 j r' hj i with z | ⟨d, hd, -⟩
                    · exact z
                    · rw [anil_of h.1] at hd
                      cases hd
                  · have h2 := h.2
                    have hv := hx2 ρ hR.s
                    split at h2
                    · match rv, hv with
                      | none, _ => exact trivial
                    · rename_i q l
                      match rv, hv with
                      | some (.int x), hv =>
                        have hb := abt_of (hR.kn ρ (agr_refl _ _)) h2
                        have hv : x.toInt = aev ρ l := hv
                        rw [← hv] at hb
                        exact hb
                    · cases h2
                | g :: gs, hfs => exact (hfs ρ (agr_refl _ _)).elim
              · rename_i g gs _x
                match cfs, hfs with
                | [], hfs => exact (hfs ρ (agr_refl _ _)).elim
                | (y', pc', plc', skc') :: cgs, hfs =>
                  have hf0 := hfs ρ (agr_refl _ _)
                  have ey : y' = g.1 := hf0.1.1
                  have epc : pc' = g.2.1 := hf0.1.2.1
                  subst ey; subst epc
                  refine ⟨rfl, ?_⟩
                  exact ih ((g.1, g.2.1, g.2.2.1, apv r g.2.2.2) :: gs) K ρ M ((g.1, g.2.1, plc', rv.toList ++ skc') :: cgs) h (fun ρ' hρ => ⟨(hS ρ' hρ).1, ⟨rfl, rfl, (hfs ρ' hρ).1.2.2.1, astk_apv (hx2 ρ' (hR ρ' hρ).2.2) (hfs ρ' hρ).1.2.2.2⟩, (hfs ρ' hρ).2⟩) hM hU hg hm
            · split at h
              · cases h
              · rename_i l hex
                obtain ⟨t, ht, ρ2, plc', skc', M', hx, hn, hag, hR', hM', hU'⟩ := aex_of (y := f.1) hp hL hex hM hR
                refine PL.next (hst hx) ?_
                exact ih ((f.1, t.1, t.2.1, t.2.2.1) :: fs) t.2.2.2 ρ2 M' ((f.1, t.1, plc', skc') :: cfs) (List.all_eq_true.mp h t ht) (fun ρ' hρ => ⟨(hR' ρ' hρ).1, ⟨rfl, rfl, (hR' ρ' hρ).2.1, (hR' ρ' hρ).2.2⟩, hfs ρ' (agr_trans hn hag hρ)⟩) hM' (hU.trans hU') (Nat.le_trans hg hn) (agr_trans (Nat.le_refl _) hm (fun k hk => hag k (Nat.lt_of_lt_of_le hk hg)))
end ASG
section ASQ
variable {xs : Nat → Int32} {L : Nat} {prs : List (Nat × Nat)} {cts : List aCt} {w : aW} {cuts : List aCut} {ms : Option (List aL)} {res : Option (Int × Int)} {M0 : xM}
theorem arunQ_of (hp : ∀ pr ∈ prs, pr.1 ≠ pr.2) (hL : L ≤ 2560) (hct : ∀ c ∈ cts, aCon xs L c) {v : List Nat} {Q : xZ → Prop} (hQ : ∀ r, aPost res w M0 r → Q r)
    (hcut : ∀ c ∈ cuts, ∀ (ρ : Nat → Int) (M : xM) (cfr : List cFr), aHS xs L prs M c.2.1 ρ c.1 cfr → aInv M → aUnw w M0 M → (ms = none ∨ alt (c.2.2.map (fun m => (aev ρ m).toNat)) v) → aGl xs L Q M cfr) :
    ∀ (n : Nat) (fr : List aFr) (K : aKn) (ρ : Nat → Int) (M : xM) (cfr : List cFr), arun prs cts w cuts ms res n fr K = true → aHS xs L prs M K ρ fr cfr → aInv M → aUnw w M0 M → (∀ os, ms = some os → ∀ ρ', agr K.1 ρ ρ' → os.map (fun m => (aev ρ' m).toNat) = v) → aGl xs L Q M cfr
  | 0, _, _, _, _, _, h, _, _, _, _ => by cases h
  | n + 1, [], _, _, _, _, h, _, _, _, _ => by cases h
  | n + 1, f :: fs, K, ρ, M, cfr, h, hS, hM, hU, hm => by
    have ih := arunQ_of hp hL hct hQ hcut n
    unfold arun at h
    dsimp only at h
    rw [Bool.or_eq_true] at h
    rcases h with h | h
    · obtain ⟨c, hc, e⟩ := List.any_eq_true.mp h
      rw [Bool.and_eq_true] at e
      have e := e.2
      unfold acut1 acut2 at e
      rw [Bool.and_eq_true, Bool.and_eq_true] at e
      obtain ⟨e1, e2, e3⟩ := e
      obtain ⟨ρc, h1, h2⟩ := achK_of hS e1 e2
      refine hcut c hc ρc M cfr h1 hM hU ?_
      cases hms : ms with
      | none => exact Or.inl rfl
      | some os =>
        rw [hms] at e3
        dsimp only at e3
        split at e3
        · rename_i ns en
          have hEF := (hS ρ (agr_refl _ _)).1
          have ha := alex_of hEF.2.2.1 hEF.2.2.2.1 e3
          rw [asbs_of h2 en, hm os hms ρ (agr_refl _ _)] at ha
          exact Or.inr ha
        · cases e3
    · match cfr, hS with
      | [], hS => exact (hS ρ (agr_refl _ _)).2.elim
      | (y, pc, plc, skc) :: cfs, hS =>
        have hS0 := (hS ρ (agr_refl _ _)).2
        have ey : y = f.1 := hS0.1.1
        have epc : pc = f.2.1 := hS0.1.2.1
        subst ey; subst epc
        have hR : aHR xs L prs M K ρ f.2.2.1 f.2.2.2 plc skc := fun ρ' hρ => ⟨(hS ρ' hρ).1, (hS ρ' hρ).2.1.2.2.1, (hS ρ' hρ).2.1.2.2.2⟩
        have hfs : ∀ ρ', agr K.1 ρ ρ' → afrs ρ' fs cfs := fun ρ' hρ => (hS ρ' hρ).2.2
        show PL xs L f.1 (f.2.1, plc, skc, 102, xsh0, M) (acont xs L Q cfs)
        split at h
        · cases h
        · rename_i e he
          have hst : ∀ {q}, xex xs L f.1 e (f.2.1, plc, skc, 102, xsh0, M) = some q → xstep xs L f.1 (f.2.1, plc, skc, 102, xsh0, M) = some q := fun hq => by
            unfold xstep
            dsimp only
            rw [he]
            exact hq
          split at h
          · rename_i z as rest hca
            obtain ⟨asc, restc, hx, hx2⟩ := aca_of (xs := xs) (L := L) (y := f.1) (pc := f.2.1) (plc := plc) (M := M) hca hR.s
            have has : ∀ ρ', agr K.1 ρ ρ' → astk ρ' as asc := fun ρ' hρ => (hx2 ρ' (hR ρ' hρ).2.2).1
            have hre : ∀ ρ', agr K.1 ρ ρ' → astk ρ' rest restc := fun ρ' hρ => (hx2 ρ' (hR ρ' hρ).2.2).2
            cases cl : Nat.ble (aargs as).length (xm z).2.2.1 with
            | false => rw [cl] at h; cases h
            | true =>
              rw [cl] at h
              have hlen : (xargs asc).length ≤ (xm z).2.2.1 := by
                rw [aloc_len (aargs_of (has ρ (agr_refl _ _)))]
                exact Nat.le_of_ble_eq_true cl
              dsimp only [cond_true] at h
              split at h
              · rename_i ef
                obtain ⟨c, K1, e', -⟩ := afind_of hR.kn has ef
                cases e'
              · rename_i c K1 ef
                obtain ⟨c', K1', e', hc, hz, s1, hK1, hpv, hpre⟩ := afind_of hR.kn has ef
                cases e'
                split at h
                · cases h
                · rename_i r K2 eh
                  unfold ahav at eh
                  cases cw : anil K1.2.2.2.2.2.2 && awsub c.2.2.2.2 w && prs.all (fun pr => !(awp c.2.2.2.2 pr.1) && !(awp c.2.2.2.2 pr.2)) with
                  | false => rw [cw] at eh; cases eh
                  | true =>
                    rw [cw] at eh
                    rw [Bool.and_eq_true, Bool.and_eq_true] at cw
                    dsimp only [cond_true] at eh
                    have hRk : aRk M := fun j r hj i => by
                      rcases (hK1 ρ (agr_refl _ _)).2.2.2.2.2.2.2 j r hj i with z | ⟨d, hd, -⟩
                      · exact z
                      · rw [anil_of cw.1.1] at hd
                        cases hd
                    refine PL.callL (hst hx) hlen ?_
                    have hcon := hct c hc M asc hM hRk hpv hpre
                    rw [hz] at hcon
                    refine hcon.imp (fun r' hr' => ?_)
                    obtain ⟨rv, rnz, rsh, rM⟩ := r'
                    obtain ⟨M', er, hM', hRk', hres, hU'⟩ := hr'
                    cases er
                    refine ⟨rfl, ?_⟩
                    have hK2 := ahavK_of cw.2 hRk' hU' hK1
                    have hUU : aUnw w M0 rM := hU.trans (fun p i e => hU' p i (awsub_of cw.1.2 e))
                    have fin : ∀ (ρ2 : Nat → Int), K.1 ≤ K2.1 → agr K.1 ρ ρ2 → (∀ ρ', agr K2.1 ρ2 ρ' → aKok xs L prs aRws ρ' K2 rM ∧ aretv ρ' r rv) → PL xs L f.1 (f.2.1 + 3, plc, rv.toList ++ restc, 102, xsh0, rM) (acont xs L Q cfs) := by
                      intro ρ2 hn hag hk
                      refine ih ((f.1, f.2.1 + 3, f.2.2.1, apv r rest) :: fs) K2 ρ2 rM ((f.1, f.2.1 + 3, plc, rv.toList ++ restc) :: cfs) h (fun ρ' hρ => ?_) hM' hUU (fun os hos ρ' hρ => hm os hos ρ' (agr_trans hn hag hρ))
                      have hρ0 := agr_trans hn hag hρ
                      exact ⟨(hk ρ' hρ).1, ⟨rfl, rfl, (hR ρ' hρ0).2.1, astk_apv (hk ρ' hρ).2 (hre ρ' hρ0)⟩, hfs ρ' hρ0⟩
                    split at eh
                    · rename_i ers
                      cases eh
                      rw [ers] at hres
                      have erv : rv = none := by
                        cases rv with
                        | none => rfl
                        | some q => exact hres.elim
                      subst erv
                      exact fin ρ (by rw [← s1.1]; exact Nat.le_refl _) (agr_refl _ _) (fun ρ' hρ => ⟨hK2 ρ' hρ, trivial⟩)
                    · rename_i q ers
                      cases eh
                      rw [ers] at hres
                      match rv, hres with
                      | some (.int x), hres =>
                        obtain ⟨ρ2, g1, g2, g3⟩ := afr_of (q := q) (z := x.toInt) hK2 hres
                        have hn : (ahavK c.2.2.2.2 K1).1 = K.1 := s1.1
                        rw [hn] at g1 g2
                        exact fin ρ2 g1 g2 g3
              · refine PL.callL (hst hx) hlen ?_
                exact ih ((z, 0, axent z as, []) :: (f.1, f.2.1 + 3, f.2.2.1, rest) :: fs) K ρ M ((z, 0, xent z asc, []) :: (f.1, f.2.1 + 3, plc, restc) :: cfs) h (fun ρ' hρ => ⟨(hS ρ' hρ).1, ⟨rfl, rfl, axent_of (has ρ' hρ), trivial⟩, ⟨rfl, rfl, (hR ρ' hρ).2.1, hre ρ' hρ⟩, hfs ρ' hρ⟩) hM hU hm
          · split at h
            · rename_i r hrt
              obtain ⟨rv, hx, hx2⟩ := aret_of (xs := xs) (L := L) (y := f.1) (pc := f.2.1) (plc := plc) (hR.kn ρ (agr_refl _ _)) hrt hR.s
              refine PL.ret (hst hx) ?_
              split at h
              · match cfs, hfs with
                | [], _ =>
                  unfold aretok at h
                  rw [Bool.and_eq_true] at h
                  refine hQ _ ⟨M, rfl, hM, fun j r' hj i => ?_, ?_, hU⟩
                  · rcases (hR.kn ρ (agr_refl _ _)).2.2.2.2.2.2.2 j r' hj i with z | ⟨d, hd, -⟩
                    · exact z
                    · rw [anil_of h.1] at hd
                      cases hd
                  · have h2 := h.2
                    have hv := hx2 ρ hR.s
                    split at h2
                    · match rv, hv with
                      | none, _ => exact trivial
                    · rename_i q l
                      match rv, hv with
                      | some (.int x), hv =>
                        have hb := abt_of (hR.kn ρ (agr_refl _ _)) h2
                        have hv : x.toInt = aev ρ l := hv
                        rw [← hv] at hb
                        exact hb
                    · cases h2
                | g :: gs, hfs => exact (hfs ρ (agr_refl _ _)).elim
              · rename_i g gs _x
                match cfs, hfs with
                | [], hfs => exact (hfs ρ (agr_refl _ _)).elim
                | (y', pc', plc', skc') :: cgs, hfs =>
                  have hf0 := hfs ρ (agr_refl _ _)
                  have ey : y' = g.1 := hf0.1.1
                  have epc : pc' = g.2.1 := hf0.1.2.1
                  subst ey; subst epc
                  refine ⟨rfl, ?_⟩
                  exact ih ((g.1, g.2.1, g.2.2.1, apv r g.2.2.2) :: gs) K ρ M ((g.1, g.2.1, plc', rv.toList ++ skc') :: cgs) h (fun ρ' hρ => ⟨(hS ρ' hρ).1, ⟨rfl, rfl, (hfs ρ' hρ).1.2.2.1, astk_apv (hx2 ρ' (hR ρ' hρ).2.2) (hfs ρ' hρ).1.2.2.2⟩, (hfs ρ' hρ).2⟩) hM hU hm
            · split at h
              · cases h
              · rename_i l hex
                obtain ⟨t, ht, ρ2, plc', skc', M', hx, hn, hag, hR', hM', hU'⟩ := aex_of (y := f.1) hp hL hex hM hR
                refine PL.next (hst hx) ?_
                exact ih ((f.1, t.1, t.2.1, t.2.2.1) :: fs) t.2.2.2 ρ2 M' ((f.1, t.1, plc', skc') :: cfs) (List.all_eq_true.mp h t ht) (fun ρ' hρ => ⟨(hR' ρ' hρ).1, ⟨rfl, rfl, (hR' ρ' hρ).2.1, (hR' ρ' hρ).2.2⟩, hfs ρ' (agr_trans hn hag hρ)⟩) hM' (hU.trans hU') (fun os hos ρ' hρ => hm os hos ρ' (agr_trans hn hag hρ))
/-- cuts that run to one another, less and less, or to outs -/
def acksX (prs : List (Nat × Nat)) (cts : List aCt) (w : aW) (res : Option (Int × Int)) (k N : Nat) (ins outs : List aCut) : Bool := outs.all (fun c => Nat.beq c.2.2.length k) && ins.all (fun c => Nat.beq c.2.2.length k && c.2.2.all (awl c.2.1.1) && arun prs cts w (ins ++ outs) (some c.2.2) res N c.1 c.2.1)
theorem acksX_of {k N : Nat} {ins outs : List aCut} {Q : xZ → Prop} (hp : ∀ pr ∈ prs, pr.1 ≠ pr.2) (hL : L ≤ 2560) (hct : ∀ c ∈ cts, aCon xs L c) (hQ : ∀ r, aPost res w M0 r → Q r) (h : acksX prs cts w res k N ins outs = true)
    (hout : ∀ c ∈ outs, ∀ (ρ : Nat → Int) (M : xM) (cfr : List cFr), aHS xs L prs M c.2.1 ρ c.1 cfr → aInv M → aUnw w M0 M → aGl xs L Q M cfr) : ∀ c ∈ ins ++ outs, ∀ (ρ : Nat → Int) (M : xM) (cfr : List cFr), aHS xs L prs M c.2.1 ρ c.1 cfr → aInv M → aUnw w M0 M → aGl xs L Q M cfr := by
  unfold acksX at h
  rw [Bool.and_eq_true] at h
  have hlen : ∀ c ∈ ins ++ outs, c.2.2.length = k := fun c hc => by
    rcases List.mem_append.mp hc with hc | hc
    · have hk := List.all_eq_true.mp h.2 c hc
      rw [Bool.and_eq_true, Bool.and_eq_true] at hk
      exact Nat.eq_of_beq_eq_true hk.1.1
    · exact Nat.eq_of_beq_eq_true (List.all_eq_true.mp h.1 c hc)
  have key : ∀ v : List Nat, Acc aLt v → v.length = k → ∀ c ∈ ins ++ outs, ∀ (ρ : Nat → Int) (M : xM) (cfr : List cFr), c.2.2.map (fun m => (aev ρ m).toNat) = v → aHS xs L prs M c.2.1 ρ c.1 cfr → aInv M → aUnw w M0 M → aGl xs L Q M cfr := by
    intro v hv
    induction hv with
    | intro v _ ih =>
      intro hl c hc ρ M cfr hcv hS hM hU
      rcases List.mem_append.mp hc with hc | hc
      · have hk := List.all_eq_true.mp h.2 c hc
        rw [Bool.and_eq_true, Bool.and_eq_true] at hk
        refine arunQ_of hp hL hct (ms := some c.2.2) (v := v) (cuts := ins ++ outs) hQ ?_ N c.1 c.2.1 ρ M cfr hk.2 hS hM hU ?_
        · intro c' hc' ρ' M' cfr' hS' hM' hU' ha
          rcases ha with ha | ha
          · cases ha
          · have hl' : (c'.2.2.map (fun m => (aev ρ' m).toNat)).length = k := by rw [List.length_map]; exact hlen c' hc'
            exact ih _ ⟨hl'.trans hl.symm, ha⟩ hl' c' hc' ρ' M' cfr' rfl hS' hM' hU'
        · intro os hos ρ' hρ
          cases hos
          rw [← hcv]
          exact List.map_congr_left (fun m hm => by rw [awl_of hρ (List.all_eq_true.mp hk.1.2 m hm)])
      · exact hout c hc ρ M cfr hS hM hU
  intro c hc ρ M cfr hS hM hU
  have hl : (c.2.2.map (fun m => (aev ρ m).toNat)).length = k := by rw [List.length_map]; exact hlen c hc
  exact key _ (alt_acc k _ hl) hl c hc ρ M cfr rfl hS hM hU
/-- a start that runs to such cuts -/
theorem arunX_of {k N : Nat} {ins outs : List aCut} {Q : xZ → Prop} (hp : ∀ pr ∈ prs, pr.1 ≠ pr.2) (hL : L ≤ 2560) (hct : ∀ c ∈ cts, aCon xs L c) (hQ : ∀ r, aPost res w M0 r → Q r) (h : acksX prs cts w res k N ins outs = true)
    (hout : ∀ c ∈ outs, ∀ (ρ : Nat → Int) (M : xM) (cfr : List cFr), aHS xs L prs M c.2.1 ρ c.1 cfr → aInv M → aUnw w M0 M → aGl xs L Q M cfr) {fr : List aFr} {K : aKn} {ρ : Nat → Int} {M : xM} {cfr : List cFr} (hr : arun prs cts w (ins ++ outs) none res N fr K = true) (hS : aHS xs L prs M K ρ fr cfr) (hM : aInv M) (hU : aUnw w M0 M) : aGl xs L Q M cfr :=
  arunQ_of hp hL hct (ms := none) (v := []) (cuts := ins ++ outs) hQ (fun c hc ρ' M' cfr' hS' hM' hU' _ => acksX_of hp hL hct hQ h hout c hc ρ' M' cfr' hS' hM' hU') N fr K ρ M cfr hr hS hM hU (fun os hos => by cases hos)
end ASQ
