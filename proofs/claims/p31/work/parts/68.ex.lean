/-! THE ANALYZER, seven: writes, fields, copies; all instructions -/
section AOP5
variable {xs : Nat → Int32} {L : Nat} {prs : List (Nat × Nat)} {w : aW} {M : xM} {K : aKn} {ρ : Nat → Int} {pl : List (Option aV)} {sk : List aV} {plc : List (Option Value)} {skc : List Value} {pc : Nat} {l : List aT}
def aw1 (pc' : Nat) (pl : List (Option aV)) (sk : List aV) : Option (Option aKn) → Option (List aT)
  | none => none
  | some none => some []
  | some (some K) => some [(pc', pl, sk, K)]
/-- an element of a row is written -/
def aset1 (prs : List (Nat × Nat)) (w : aW) (K : aKn) (p : Nat) (l v : aL) (n : Nat) (cs : List aL) : Option (Option aKn) := match aneed K (aix l n) with
  | none => none
  | some none => some none
  | some (some K1) => aput prs w K1 p l v none cs
theorem aw1_of {p n : Nat} {y x : aL} {i z : Int32} {m : List Value} {cs : List aL} {r : xR} (hp : ∀ pr ∈ prs, pr.1 ≠ pr.2) (hM : aInv M) (hK : aHK xs L prs M K ρ) (hi : ∀ ρ', agr K.1 ρ ρ' → i.toInt = aev ρ' x) (hz : ∀ ρ', agr K.1 ρ ρ' → z.toInt = aev ρ' y) (hl : ∀ ρ', agr K.1 ρ ρ' → aloc ρ' pl plc ∧ astk ρ' sk m) (hr : xoutB i n = false → (∀ c ∈ cs, aev ρ c ≤ 0) → r = some (.inl (pc, plc, m, 102, xsh0, xup M p i.toNatClampNeg z))) (h : aw1 pc pl sk (aset1 prs w K p x y n cs) = some l) : aOut xs L prs w M K ρ l r := by
  unfold aset1 at h
  split at h
  · cases h
  · rename_i en
    obtain ⟨K', e', -⟩ := aneed_of hK en
    cases e'
  · rename_i K1 en
    obtain ⟨K', e', s1, hK1, hc⟩ := aneed_of hK en
    cases e'
    have hb := aix_of (hc ρ (agr_refl _ _))
    rw [← hi ρ (agr_refl _ _)] at hb
    obtain ⟨o1, o2⟩ := xout_ok hb.1 hb.2
    cases hg : aput prs w K1 p x y none cs with
    | none => rw [hg] at h; cases h
    | some r' =>
      obtain ⟨K2, e2, n2, hK2, hM2, hU2, hc2⟩ := aput_of (i := i.toNatClampNeg) (x := z) hp hK1 hM (fun ρ' hr => by rw [s1.1] at hr; rw [o2, hi ρ' hr]) (fun ρ' hr => by rw [s1.1] at hr; exact hz ρ' hr) (fun b e => by cases e) hg
      subst e2
      rw [hg] at h
      cases h
      have hn : K2.1 = K.1 := n2.trans s1.1
      refine ⟨_, List.mem_singleton.mpr rfl, ρ, plc, m, _, hr o1 (hc2 ρ (agr_refl _ _)), by rw [hn]; exact Nat.le_refl _, agr_refl _ _, fun ρ' hρ => ?_, hM2, hU2⟩
      have hρ : agr K2.1 ρ ρ' := hρ
      refine ⟨hK2 ρ' hρ, hl ρ' ?_⟩
      rw [hn] at hρ
      exact hρ
def ao_iast (prs : List (Nat × Nat)) (w : aW) (pc : Nat) (pl : List (Option aV)) (sk : List aV) (K : aKn) : Option (List aT) := match sk with
  | .inl y :: .inl x :: .inr (.inr (.inl p)) :: sk => (match aSha p with
      | some (.inl (.int, n)) => aw1 (pc + 1) pl sk (aset1 prs w K p x y n [])
      | _ => none)
  | _ => none
theorem ao_iast_of (hp : ∀ pr ∈ prs, pr.1 ≠ pr.2) (h : ao_iast prs w pc pl sk K = some l) (hM : aInv M) (hR : aHR xs L prs M K ρ pl sk plc skc) : aOut xs L prs w M K ρ l (xo_iast (pc, plc, skc, 102, xsh0, M)) := by
  unfold ao_iast at h
  split at h
  · rename_i y x p sk'
    obtain ⟨v, m, e⟩ := astk_cons hR.s
    subst e
    obtain ⟨z, e⟩ := aval_int hR.s.1
    subst e
    obtain ⟨v, m, e⟩ := astk_cons hR.s.2
    subst e
    obtain ⟨i, e⟩ := aval_int hR.s.2.1
    subst e
    obtain ⟨v, m, e⟩ := astk_cons hR.s.2.2
    subst e
    have e := aval_ref hR.s.2.2.1
    subst e
    split at h
    · rename_i n es
      refine aw1_of (i := i) (z := z) hp hM hR.kn (fun ρ' hr => (hR ρ' hr).2.2.2.1) (fun ρ' hr => (hR ρ' hr).2.2.1) (fun ρ' hr => ⟨(hR ρ' hr).2.1, (hR ρ' hr).2.2.2.2.2⟩) (fun ho _ => ?_) h
      simp only [xo_iast, aSha_of es, ho, cond_false]
    · cases h
  · cases h
theorem vp_nar_bool {x : Int32} (h1 : 0 ≤ x.toInt) (h2 : x.toInt ≤ 1) : vp_nar .boolean x = x := by
  have : x.toInt = (0 : Int32).toInt ∨ x.toInt = (1 : Int32).toInt := by
    have e0 : (0 : Int32).toInt = 0 := by decide
    have e1 : (1 : Int32).toInt = 1 := by decide
    omega
  rcases this with e | e
  · rw [Int32.toInt_inj.mp e]; rfl
  · rw [Int32.toInt_inj.mp e]; rfl
theorem vp_nar_b {x : Int32} (h1 : -128 ≤ x.toInt) (h2 : x.toInt ≤ 127) : vp_nar .byte x = x := by
  rw [vp_nar_byte]
  apply Int32.toInt_inj.mp
  rw [Int8.toInt_toInt32, Int32.toInt_toInt8, Int.bmod_eq_of_le (by omega) (by omega)]
def ao_bast (prs : List (Nat × Nat)) (w : aW) (pc : Nat) (pl : List (Option aV)) (sk : List aV) (K : aKn) : Option (List aT) := match sk with
  | .inl y :: .inl x :: .inr (.inr (.inl p)) :: sk => (match aSha p with
      | some (.inl (.byte, n)) => aw1 (pc + 1) pl sk (aset1 prs w K p x y n (aqc (-128, 127) y))
      | some (.inl (.boolean, n)) => aw1 (pc + 1) pl sk (aset1 prs w K p x y n (aqc (0, 1) y))
      | _ => none)
  | _ => none
theorem ao_bast_of (hp : ∀ pr ∈ prs, pr.1 ≠ pr.2) (h : ao_bast prs w pc pl sk K = some l) (hM : aInv M) (hR : aHR xs L prs M K ρ pl sk plc skc) : aOut xs L prs w M K ρ l (xo_bast (pc, plc, skc, 102, xsh0, M)) := by
  unfold ao_bast at h
  split at h
  · rename_i y x p sk'
    obtain ⟨v, m, e⟩ := astk_cons hR.s
    subst e
    obtain ⟨z, e⟩ := aval_int hR.s.1
    subst e
    obtain ⟨v, m, e⟩ := astk_cons hR.s.2
    subst e
    obtain ⟨i, e⟩ := aval_int hR.s.2.1
    subst e
    obtain ⟨v, m, e⟩ := astk_cons hR.s.2.2
    subst e
    have e := aval_ref hR.s.2.2.1
    subst e
    have hz0 : z.toInt = aev ρ y := hR.s.1
    split at h
    · rename_i n es
      refine aw1_of (i := i) (z := z) hp hM hR.kn (fun ρ' hr => (hR ρ' hr).2.2.2.1) (fun ρ' hr => (hR ρ' hr).2.2.1) (fun ρ' hr => ⟨(hR ρ' hr).2.1, (hR ρ' hr).2.2.2.2.2⟩) (fun ho hc => ?_) h
      have hb := aqc_of hc
      rw [← hz0] at hb
      simp only [xo_bast, aSha_of es, ho, cond_false]
      rw [vp_nar_b hb.1 hb.2]
    · rename_i n es
      refine aw1_of (i := i) (z := z) hp hM hR.kn (fun ρ' hr => (hR ρ' hr).2.2.2.1) (fun ρ' hr => (hR ρ' hr).2.2.1) (fun ρ' hr => ⟨(hR ρ' hr).2.1, (hR ρ' hr).2.2.2.2.2⟩) (fun ho hc => ?_) h
      have hb := aqc_of hc
      rw [← hz0] at hb
      simp only [xo_bast, aSha_of es, ho, cond_false]
      rw [vp_nar_bool hb.1 hb.2]
    · cases h
  · cases h
theorem i32_ofNat {n : Nat} (h : n ≤ 2147483647) : (Int32.ofNat n).toInt = (n : Int) := by
  rw [← Int32.ofInt_eq_ofNat]
  exact Int32.toInt_ofInt_of_le (by omega) (by omega)
def ao_alen (pc : Nat) (pl : List (Option aV)) (sk : List aV) (K : aKn) : Option (List aT) := match sk with
  | .inr (.inr (.inl p)) :: sk => bif Nat.beq p 999 then some [(pc + 1, pl, .inl (aid 0) :: sk, K)]
    else bif Nat.ble 2000 p then (bif Nat.ble (p + 1) 2008 && Nat.ble (xSl.getD (p - 2000) 0) 2147483647 then some [(pc + 1, pl, .inl (aco (xSl.getD (p - 2000) 0)) :: sk, K)] else none)
    else (match aSha p with
      | some (.inl (.int, n)) => bif Nat.ble n 2147483647 then some [(pc + 1, pl, .inl (aco n) :: sk, K)] else none
      | _ => none)
  | _ => none
theorem ao_alen_of (hL : L ≤ 2560) (h : ao_alen pc pl sk K = some l) (hM : aInv M) (hR : aHR xs L prs M K ρ pl sk plc skc) : aOut xs L prs w M K ρ l (xo_alen L (pc, plc, skc, 102, xsh0, M)) := by
  unfold ao_alen at h
  split at h
  · rename_i p sk'
    obtain ⟨v, m, e⟩ := astk_cons hR.s
    subst e
    have e := aval_ref hR.s.1
    subst e
    cases c : Nat.beq p 999 with
    | true =>
      rw [c] at h
      cases h
      refine aOut.same (plc' := plc) (skc' := .int (Int32.ofNat L) :: m) hM hR.kn ?_ (fun ρ' hr => ⟨(hR ρ' hr).2.1, ?_, (hR ρ' hr).2.2.2⟩)
      · simp only [xo_alen, c, cond_true]
      · show (Int32.ofNat L).toInt = aev ρ' (aid 0)
        rw [aev_id, (hR.kn ρ' hr).2.1, i32_ofNat (by omega)]
    | false =>
      rw [c] at h
      cases c1 : Nat.ble 2000 p with
      | true =>
        rw [c1] at h
        cases c2 : Nat.ble (p + 1) 2008 && Nat.ble (xSl.getD (p - 2000) 0) 2147483647 with
        | false => rw [c2] at h; cases h
        | true =>
          rw [c2] at h
          cases h
          rw [Bool.and_eq_true] at c2
          refine aOut.same (plc' := plc) (skc' := .int (Int32.ofNat (xSl.getD (p - 2000) 0)) :: m) hM hR.kn ?_ (fun ρ' hr => ⟨(hR ρ' hr).2.1, ?_, (hR ρ' hr).2.2.2⟩)
          · simp only [xo_alen, c, c1, c2.1, cond_true, cond_false]
          · show (Int32.ofNat (xSl.getD (p - 2000) 0)).toInt = aev ρ' (aco (xSl.getD (p - 2000) 0))
            rw [aev_co, i32_ofNat (Nat.le_of_ble_eq_true c2.2)]
      | false =>
        rw [c1] at h
        dsimp only [cond_false] at h
        split at h
        · rename_i n es
          cases c2 : Nat.ble n 2147483647 with
          | false => rw [c2] at h; cases h
          | true =>
            rw [c2] at h
            cases h
            refine aOut.same (plc' := plc) (skc' := .int (Int32.ofNat n) :: m) hM hR.kn ?_ (fun ρ' hr => ⟨(hR ρ' hr).2.1, ?_, (hR ρ' hr).2.2.2⟩)
            · simp only [xo_alen, c, c1, cond_false, aSha_of es]
            · show (Int32.ofNat n).toInt = aev ρ' (aco n)
              rw [aev_co, i32_ofNat (Nat.le_of_ble_eq_true c2)]
        · cases h
  · cases h
def ao_gets (a pc : Nat) (pl : List (Option aV)) (sk : List aV) (K : aKn) : Option (List aT) := bif Nat.beq a 0 then some [(pc + 3, pl, .inl (aco 1) :: sk, K)] else bif Nat.beq a 1 then some [(pc + 3, pl, .inr (.inr (.inl 3000)) :: sk, K)] else none
theorem ao_gets_of {a : Nat} (h : ao_gets a pc pl sk K = some l) (hM : aInv M) (hR : aHR xs L prs M K ρ pl sk plc skc) : aOut xs L prs w M K ρ l (xo_gets a (pc, plc, skc, 102, xsh0, M)) := by
  unfold ao_gets at h
  cases c : Nat.beq a 0 with
  | true =>
    rw [c] at h
    cases h
    refine aOut.same (plc' := plc) (skc' := .int 1 :: skc) hM hR.kn ?_ (fun ρ' hr => ⟨(hR ρ' hr).2.1, ?_, (hR ρ' hr).2.2⟩)
    · simp only [xo_gets, c, cond_true]
    · show (1 : Int32).toInt = aev ρ' (aco 1)
      rw [aev_co]
      rfl
  | false =>
    rw [c] at h
    cases c1 : Nat.beq a 1 with
    | false => rw [c1] at h; cases h
    | true =>
      rw [c1] at h
      cases h
      refine aOut.same (plc' := plc) (skc' := .ref 3000 :: skc) hM hR.kn ?_ (fun ρ' hr => ⟨(hR ρ' hr).2.1, rfl, (hR ρ' hr).2.2⟩)
      simp only [xo_gets, c, c1, cond_true, cond_false]
def asm2 (K : aKn) (p b : Nat) (v : aL) : Option aKn := bif Nat.beq p 56 then (bif Nat.beq b 26 then (match acl K.2.2.2.1 56 (aco 27) with
    | some u => asetO K (aleR K.2.1 K.2.2.1 (asub v u) (aco 121))
    | none => some K) else bif Nat.beq b 27 then (match acl K.2.2.2.1 56 (aco 26) with
    | some u => asetO K (aleR K.2.1 K.2.2.1 (asub u v) (aco 121))
    | none => some K) else some K) else some K
theorem asm2_of {p b : Nat} {v : aL} (hM : aX M) (hK : aHK xs L prs M K ρ) (hv : ∀ ρ', agr K.1 ρ ρ' → (M p b).toInt = aev ρ' v) : ∃ K', asm2 K p b v = some K' ∧ aSame K K' ∧ aHK xs L prs M K' ρ := by
  have triv : ∃ K', some K = some K' ∧ aSame K K' ∧ aHK xs L prs M K' ρ := ⟨K, rfl, aSame.refl K, hK⟩
  have h7 := hM.2.2.2.2.2.2
  unfold asm2
  cases c : Nat.beq p 56 with
  | false => exact triv
  | true =>
    have e := Nat.eq_of_beq_eq_true c
    subst e
    dsimp only [cond_true]
    cases c1 : Nat.beq b 26 with
    | true =>
      have e := Nat.eq_of_beq_eq_true c1
      subst e
      dsimp only [cond_true]
      split
      · rename_i u eu
        refine asetO_of hK (aleR_all (P := agr K.1 ρ) (agr_refl _ _) hK.EF (fun ρ' hr => ?_))
        have h1 := ((hK ρ' hr).2.2.2.2.1 _ (acl_of eu)).2
        dsimp only at h1
        rw [aev_co] at h1
        have h1 : (M 56 27).toInt = aev ρ' u := h1
        have h3 := hv ρ' hr
        rw [aev_sub, aev_co]
        omega
      · exact triv
    | false =>
      cases c2 : Nat.beq b 27 with
      | true =>
        have e := Nat.eq_of_beq_eq_true c2
        subst e
        dsimp only [cond_true, cond_false]
        split
        · rename_i u eu
          refine asetO_of hK (aleR_all (P := agr K.1 ρ) (agr_refl _ _) hK.EF (fun ρ' hr => ?_))
          have h1 := ((hK ρ' hr).2.2.2.2.1 _ (acl_of eu)).2
          dsimp only at h1
          rw [aev_co] at h1
          have h1 : (M 56 26).toInt = aev ρ' u := h1
          have h3 := hv ρ' hr
          rw [aev_sub, aev_co]
          omega
        · exact triv
      | false => exact triv
def ao_getf (prs : List (Nat × Nat)) (a b pc : Nat) (pl : List (Option aV)) (sk : List aV) (K : aKn) : Option (List aT) := match sk with
  | .inr (.inr (.inl p)) :: sk => bif Nat.beq a 100 then (bif Nat.ble 1000 p && Nat.ble (p + 1) 1008 then some [(pc + 3, pl, (bif Nat.beq b 0 then .inr (.inr (.inl (p + 1000))) else .inl (aco 0)) :: sk, K)] else none)
    else (match aSha p with
      | some (.inr (ci, fs)) => bif Nat.beq ci a then (match fs[b]? with
        | some none => (match asm2 (ard prs K p (aco b) (aqF p b)).2 p b (ard prs K p (aco b) (aqF p b)).1 with
          | some K2 => some [(pc + 3, pl, .inl (ard prs K p (aco b) (aqF p b)).1 :: sk, K2)]
          | none => some [])
        | some (some (some q)) => bif Nat.ble 999 q then none else some [(pc + 3, pl, .inr (.inr (.inl q)) :: sk, K)]
        | _ => none) else none
      | _ => none)
  | _ => none
theorem ao_getf_of {a b : Nat} (h : ao_getf prs a b pc pl sk K = some l) (hM : aInv M) (hR : aHR xs L prs M K ρ pl sk plc skc) : aOut xs L prs w M K ρ l (xo_getf a b (pc, plc, skc, 102, xsh0, M)) := by
  unfold ao_getf at h
  split at h
  · rename_i p sk'
    obtain ⟨v, m, e⟩ := astk_cons hR.s
    subst e
    have e := aval_ref hR.s.1
    subst e
    cases c : Nat.beq a 100 with
    | true =>
      rw [c] at h
      cases c1 : Nat.ble 1000 p && Nat.ble (p + 1) 1008 with
      | false => rw [c1] at h; cases h
      | true =>
        rw [c1] at h
        cases h
        refine aOut.same (plc' := plc) (skc' := (bif Nat.beq b 0 then Value.ref (p + 1000) else .int 0) :: m) hM hR.kn ?_ (fun ρ' hr => ⟨(hR ρ' hr).2.1, ?_, (hR ρ' hr).2.2.2⟩)
        · simp only [xo_getf, c, c1, cond_true]
        · cases Nat.beq b 0 with
          | true => rfl
          | false =>
            show (0 : Int32).toInt = aev ρ' (aco 0)
            rw [aev_co]
            rfl
    | false =>
      rw [c] at h
      dsimp only [cond_false] at h
      split at h
      · rename_i ci fs es
        cases c1 : Nat.beq ci a with
        | false => rw [c1] at h; cases h
        | true =>
          rw [c1] at h
          dsimp only [cond_true] at h
          split at h
          · rename_i ef
            obtain ⟨ρ2, g1, g2, g3⟩ := ard_of (p := p) (i := b) (l := aco b) (q := aqF p b) hR.kn (fun ρ' _ => aev_co) (aqF_of hM.1 p b)
            obtain ⟨K2, f1, f2, f3⟩ := asm2_of (p := p) (b := b) (v := (ard prs K p (aco b) (aqF p b)).1) hM.2 (K := (ard prs K p (aco b) (aqF p b)).2) (ρ := ρ2) (fun ρ' hr => (g3 ρ' hr).1) (fun ρ' hr => (g3 ρ' hr).2)
            rw [f1] at h
            cases h
            refine aOut.new (P := fun ρ' => (M p b).toInt = aev ρ' (ard prs K p (aco b) (aqF p b)).1) (plc' := plc) (skc' := .int (M p b) :: m) hM ?_ ⟨ρ2, by rw [f2.1]; exact g1, g2, fun ρ' hr => ⟨f3 ρ' hr, (g3 ρ' (by rw [← f2.1]; exact hr)).2⟩⟩ (fun ρ' hr hP => ⟨(hR ρ' hr).2.1, hP, (hR ρ' hr).2.2.2⟩)
            simp only [xo_getf, c, c1, cond_true, cond_false, aSha_of es, ef]
          · rename_i q ef
            cases c2 : Nat.ble 999 q with
            | true => rw [c2] at h; cases h
            | false =>
              rw [c2] at h
              cases h
              refine aOut.same (plc' := plc) (skc' := .ref q :: m) hM hR.kn ?_ (fun ρ' hr => ⟨(hR ρ' hr).2.1, rfl, (hR ρ' hr).2.2.2⟩)
              simp only [xo_getf, c, c1, c2, cond_true, cond_false, aSha_of es, ef]
          · cases h
      · cases h
  · cases h
def ao_putf (prs : List (Nat × Nat)) (w : aW) (a b pc : Nat) (pl : List (Option aV)) (sk : List aV) (K : aKn) : Option (List aT) := match sk with
  | .inl y :: .inr (.inr (.inl p)) :: sk => (match aSha p with
      | some (.inr (ci, fs)) => (match fs[b]? with
        | some none => bif Nat.beq ci a then aw1 (pc + 3) pl sk (aput prs w K p (aco b) y (some b) []) else bif Nat.beq (ci + 50) a then aw1 (pc + 3) pl sk (aput prs w K p (aco b) y (some b) (aqc (0, 1) y)) else none
        | _ => none)
      | _ => none)
  | _ => none
theorem aw2_of {p b : Nat} {y : aL} {z : Int32} {m : List Value} {cs : List aL} {r : xR} (hp : ∀ pr ∈ prs, pr.1 ≠ pr.2) (hM : aInv M) (hK : aHK xs L prs M K ρ) (hz : ∀ ρ', agr K.1 ρ ρ' → z.toInt = aev ρ' y) (hl : ∀ ρ', agr K.1 ρ ρ' → aloc ρ' pl plc ∧ astk ρ' sk m) (hr : (∀ c ∈ cs, aev ρ c ≤ 0) → r = some (.inl (pc, plc, m, 102, xsh0, xup M p b z))) (h : aw1 pc pl sk (aput prs w K p (aco b) y (some b) cs) = some l) : aOut xs L prs w M K ρ l r := by
  cases hg : aput prs w K p (aco b) y (some b) cs with
  | none => rw [hg] at h; cases h
  | some r' =>
    obtain ⟨K2, e2, n2, hK2, hM2, hU2, hc2⟩ := aput_of (i := b) (x := z) hp hK hM (fun ρ' hr => aev_co) hz (fun b' e => by cases e; rfl) hg
    subst e2
    rw [hg] at h
    cases h
    refine ⟨_, List.mem_singleton.mpr rfl, ρ, plc, m, _, hr (hc2 ρ (agr_refl _ _)), by rw [n2]; exact Nat.le_refl _, agr_refl _ _, fun ρ' hρ => ?_, hM2, hU2⟩
    have hρ : agr K2.1 ρ ρ' := hρ
    refine ⟨hK2 ρ' hρ, hl ρ' ?_⟩
    rw [n2] at hρ
    exact hρ
theorem ao_putf_of {a b : Nat} (hp : ∀ pr ∈ prs, pr.1 ≠ pr.2) (h : ao_putf prs w a b pc pl sk K = some l) (hM : aInv M) (hR : aHR xs L prs M K ρ pl sk plc skc) : aOut xs L prs w M K ρ l (xo_putf a b (pc, plc, skc, 102, xsh0, M)) := by
  unfold ao_putf at h
  split at h
  · rename_i y p sk'
    obtain ⟨v, m, e⟩ := astk_cons hR.s
    subst e
    obtain ⟨z, e⟩ := aval_int hR.s.1
    subst e
    obtain ⟨v, m, e⟩ := astk_cons hR.s.2
    subst e
    have e := aval_ref hR.s.2.1
    subst e
    have hz0 : z.toInt = aev ρ y := hR.s.1
    split at h
    · rename_i ci fs es
      split at h
      · rename_i ef
        cases c : Nat.beq ci a with
        | true =>
          rw [c] at h
          refine aw2_of (z := z) hp hM hR.kn (fun ρ' hr => (hR ρ' hr).2.2.1) (fun ρ' hr => ⟨(hR ρ' hr).2.1, (hR ρ' hr).2.2.2.2⟩) (fun _ => ?_) h
          simp only [xo_putf, aSha_of es, ef, c, Bool.true_or, cond_true]
        | false =>
          rw [c] at h
          cases c1 : Nat.beq (ci + 50) a with
          | false => rw [c1] at h; cases h
          | true =>
            rw [c1] at h
            refine aw2_of (z := z) hp hM hR.kn (fun ρ' hr => (hR ρ' hr).2.2.1) (fun ρ' hr => ⟨(hR ρ' hr).2.1, (hR ρ' hr).2.2.2.2⟩) (fun hc => ?_) h
            have hb := aqc_of hc
            rw [← hz0] at hb
            have hb1 : 0 ≤ z.toInt := hb.1
            have hb2 : z.toInt ≤ 1 := hb.2
            have hz : (decide (z = 0) || decide (z = 1)) = true := by
              have : z.toInt = (0 : Int32).toInt ∨ z.toInt = (1 : Int32).toInt := by
                have e0 : (0 : Int32).toInt = 0 := by decide
                have e1 : (1 : Int32).toInt = 1 := by decide
                omega
              rcases this with e | e
              · rw [Int32.toInt_inj.mp e]; rfl
              · rw [Int32.toInt_inj.mp e]; rfl
            simp only [xo_putf, aSha_of es, ef, c, c1, hz, Bool.false_or, Bool.and_self, cond_true]
      · cases h
    · cases h
  · cases h
-- ---- copies
def aCp (prs : List (Nat × Nat)) (w : aW) (p q : Nat) : Bool := w.1.any (Nat.beq q) && !(aPrA q) && !(Nat.beq q 56) && !(arwp q) && aNoF q && prs.all (fun pr => !(Nat.beq pr.1 q) && !(Nat.beq pr.2 q)) && ileb (aqA q).1 (aqA p).1 && ileb (aqA p).2 (aqA q).2
def ao_copy (prs : List (Nat × Nat)) (w : aW) (pc : Nat) (pl : List (Option aV)) (sk : List aV) (K : aKn) : Option (List aT) := match sk with
  | .inl n :: .inl dp :: .inr (.inr (.inl q)) :: .inl sp :: .inr (.inr (.inl p)) :: sk => (match aSha p, aSha q with
    | some (.inl (.int, n0)), some (.inl (.int, n1)) => bif Nat.ble (acat sk) 8 && aCp prs w p q then (match aneed K [amul (-1) n, amul (-1) dp, amul (-1) sp, asub (aadd sp n) (aco n0), asub (aadd dp n) (aco n1)] with
      | none => none
      | some none => some []
      | some (some K1) => some [(pc + 3, pl, sk, (K1.1, K1.2.1, K1.2.2.1, K1.2.2.2.1.filter (fun c => !(Nat.beq c.1.1 q)), K1.2.2.2.2))]) else none
    | _, _ => none)
  | _ => none
theorem va_cpy_b {f g : Nat → Int32} {s d n k : Nat} {lo hi : Int} (hf : ∀ i, lo ≤ (f i).toInt ∧ (f i).toInt ≤ hi) (hg : lo ≤ (g k).toInt ∧ (g k).toInt ≤ hi) : lo ≤ (va_cpy f g s d n k).toInt ∧ (va_cpy f g s d n k).toInt ≤ hi := by
  unfold va_cpy
  split
  · exact hf _
  · exact hg
theorem ao_copy_of (h : ao_copy prs w pc pl sk K = some l) (hM : aInv M) (hR : aHR xs L prs M K ρ pl sk plc skc) : aOut xs L prs w M K ρ l (xo_copy (pc, plc, skc, 102, xsh0, M)) := by
  unfold ao_copy at h
  split at h
  · rename_i n dp q sp p sk'
    obtain ⟨v, m, e⟩ := astk_cons hR.s
    subst e
    obtain ⟨zn, e⟩ := aval_int hR.s.1
    subst e
    obtain ⟨v, m, e⟩ := astk_cons hR.s.2
    subst e
    obtain ⟨zd, e⟩ := aval_int hR.s.2.1
    subst e
    obtain ⟨v, m, e⟩ := astk_cons hR.s.2.2
    subst e
    have e := aval_ref hR.s.2.2.1
    subst e
    obtain ⟨v, m, e⟩ := astk_cons hR.s.2.2.2
    subst e
    obtain ⟨zs, e⟩ := aval_int hR.s.2.2.2.1
    subst e
    obtain ⟨v, m, e⟩ := astk_cons hR.s.2.2.2.2
    subst e
    have e := aval_ref hR.s.2.2.2.2.1
    subst e
    have z1 : zn.toInt = aev ρ n := hR.s.1
    have z2 : zd.toInt = aev ρ dp := hR.s.2.1
    have z3 : zs.toInt = aev ρ sp := hR.s.2.2.2.1
    split at h
    · rename_i n0 n1 es1 es2
      cases c : Nat.ble (acat sk') 8 && aCp prs w p q with
      | false => rw [c] at h; cases h
      | true =>
        rw [c] at h
        rw [Bool.and_eq_true] at c
        dsimp only [cond_true] at h
        split at h
        · cases h
        · rename_i en
          obtain ⟨K', e', -⟩ := aneed_of hR.kn en
          cases e'
        · rename_i K1 en
          cases h
          obtain ⟨K', e', s1, hK1, hc⟩ := aneed_of hR.kn en
          cases e'
          have hc := hc ρ (agr_refl _ _)
          have c1 := hc (amul (-1) n) (by simp)
          have c2 := hc (amul (-1) dp) (by simp)
          have c3 := hc (amul (-1) sp) (by simp)
          have c4 := hc (asub (aadd sp n) (aco n0)) (by simp)
          have c5 := hc (asub (aadd dp n) (aco n1)) (by simp)
          rw [aev_mul, ← z1] at c1
          rw [aev_mul, ← z2] at c2
          rw [aev_mul, ← z3] at c3
          rw [aev_sub, aev_add, aev_co, ← z1, ← z3] at c4
          rw [aev_sub, aev_add, aev_co, ← z1, ← z2] at c5
          have d0 (z : Int32) (hz : 0 ≤ z.toInt) : decide (z < 0) = false := decide_eq_false (fun q => by
            rw [Int32.lt_iff_toInt_lt] at q
            have : (0 : Int32).toInt = 0 := by decide
            omega)
          have e1 : zn.toNatClampNeg = zn.toInt.toNat := rfl
          have e2 : zd.toNatClampNeg = zd.toInt.toNat := rfl
          have e3 : zs.toNatClampNeg = zs.toInt.toNat := rfl
          have b1 : Nat.ble (zs.toNatClampNeg + zn.toNatClampNeg) n0 = true := Nat.ble_eq_true_of_le (by omega)
          have b2 : Nat.ble (zd.toNatClampNeg + zn.toNatClampNeg) n1 = true := Nat.ble_eq_true_of_le (by omega)
          have hcp := c.2
          unfold aCp at hcp
          simp only [Bool.and_eq_true, Bool.not_eq_true', ileb_iff] at hcp
          obtain ⟨⟨⟨⟨⟨⟨⟨w1, w2⟩, w3⟩, w4⟩, w5⟩, w6⟩, w7⟩, w8⟩ := hcp
          have hne : ∀ {p' i'}, p' ≠ q → va_up M q (va_cpy (M p) (M q) zs.toNatClampNeg zd.toNatClampNeg zn.toNatClampNeg) p' i' = M p' i' := fun hn => by rw [va_up_ne _ _ hn]
          refine ⟨_, List.mem_singleton.mpr rfl, ρ, plc, m, va_up M q (va_cpy (M p) (M q) zs.toNatClampNeg zd.toNatClampNeg zn.toNatClampNeg), ?_, ?_, agr_refl _ _, fun ρ' hρ => ?_, ⟨⟨?_, ?_⟩, ?_⟩, ?_⟩
          · simp only [xo_copy, aSha_of es1, aSha_of es2, xcat_of hR.s.2.2.2.2.2 c.1, d0 zs (by omega), d0 zd (by omega), d0 zn (by omega), b1, b2, Bool.not_false, Bool.and_self, cond_true]
          · show K.1 ≤ K1.1
            rw [s1.1]
            exact Nat.le_refl _
          · have hρ : agr K1.1 ρ ρ' := hρ
            have hρ0 := hρ
            rw [s1.1] at hρ0
            obtain ⟨k1, k2, k3, k4, k5, k6, k7, k8⟩ := hK1 ρ' hρ
            refine ⟨⟨k1, k2, k3, k4, ?_, k6, ?_, ?_⟩, (hR ρ' hρ0).2.1, (hR ρ' hρ0).2.2.2.2.2.2.2⟩
            · intro t ht
              obtain ⟨t1, t2⟩ := List.mem_filter.mp ht
              have t3 := k5 t t1
              refine ⟨t3.1, ?_⟩
              rw [hne (fun z => by rw [z, Nat.beq_refl] at t2; cases t2)]
              exact t3.2
            · intro j pr hj i
              have w6 := List.all_eq_true.mp w6 pr (List.mem_of_getElem? hj)
              rw [Bool.and_eq_true, Bool.not_eq_true', Bool.not_eq_true'] at w6
              rw [hne (fun z => by rw [z, Nat.beq_refl] at w6; cases w6.1), hne (fun z => by rw [z, Nat.beq_refl] at w6; cases w6.2)]
              exact k7 j pr hj i
            · intro j r hj i
              have hr1 : r.1 ≠ q ∧ r.2.2.1 ≠ q := by
                unfold arwp at w4
                rw [List.any_eq_false] at w4
                have := w4 r (List.mem_of_getElem? hj)
                rw [Bool.or_eq_true, not_or] at this
                refine ⟨fun z => this.1 ?_, fun z => this.2 ?_⟩
                · rw [z, Nat.beq_refl]
                · rw [z, Nat.beq_refl]
              unfold acnd1
              rw [hne hr1.1, hne hr1.2]
              exact k8 j r hj i
          · intro p' iv eq i'
            by_cases e : p' = q
            · subst e
              rw [va_up_self]
              have hq : aqA p' = iv := by unfold aqA; rw [eq]
              rw [hq] at w7 w8
              refine va_cpy_b (fun j => ?_) (hM.1.1 p' iv eq i')
              have := aqA_of hM.1 p j
              omega
            · rw [hne e]
              exact hM.1.1 p' iv eq i'
          · intro p' b iv eq
            by_cases e : p' = q
            · subst e
              rw [aNoF_of w5] at eq
              cases eq
            · rw [hne e]
              exact hM.1.2 p' b iv eq
          · have hcA : ∀ t, aPrA t = true → ∀ j, va_up M q (va_cpy (M p) (M q) zs.toNatClampNeg zd.toNatClampNeg zn.toNatClampNeg) t j = M t j := fun t ht j => hne (fun z => by rw [z, w2] at ht; cases ht)
            have hc56 : ∀ j, va_up M q (va_cpy (M p) (M q) zs.toNatClampNeg zd.toNatClampNeg zn.toNatClampNeg) 56 j = M 56 j := fun j => hne (fun z => by rw [← z] at w3; cases w3)
            obtain ⟨h1, h2, h3, h4, h5, h6, h7⟩ := hM.2
            refine ⟨aLk_ne h1 (hcA 13 rfl) (hcA 14 rfl), aLk_ne h2 (hcA 68 rfl) (hcA 69 rfl), fun j hj => ?_, ?_, ?_, fun j => ?_, ?_⟩
            · rw [hcA 58 rfl]; exact h3 j hj
            · rw [hcA 58 rfl, hc56]; exact h4
            · rw [hc56, hc56]; exact h5
            · rw [hcA 80 rfl, hcA 81 rfl]; exact h6 j
            · rw [hc56, hc56]; exact h7
          · intro p' i' e
            refine hne (fun z => ?_)
            subst z
            unfold aWin at e
            rw [w1] at e
            cases e
    · cases h
  · cases h
end AOP5
