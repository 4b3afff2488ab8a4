/-! THE ANALYZER FOR LAWS: numbers that are known are written as such; cuts may have pending cells, ghosts, measures -/
def anrm (E : aE) (l : aL) : aL := match l.2 with
  | [] => l
  | _ => (match ahi E l, ahi E (amul (-1) l) with
    | some h, some h' => bif ieqb (h + h') 0 then aco h else l
    | _, _ => l)
theorem anrm_of {ρ : Nat → Int} {E : aE} (hE : aok ρ E) {l : aL} : aev ρ (anrm E l) = aev ρ l := by
  unfold anrm
  split
  · rfl
  · split
    · rename_i h h' e1 e2
      cases c : ieqb (h + h') 0 with
      | false => rfl
      | true =>
        rw [ieqb_iff] at c
        have i1 := ahi_of hE e1
        have i2 := ahi_of hE e2
        rw [aev_mul] at i2
        show aev ρ (aco h) = _
        rw [aev_co]
        omega
    · rfl
def anrmV (E : aE) : aV → aV
  | .inl l => .inl (anrm E l)
  | v => v
theorem anrmV_of {ρ : Nat → Int} {E : aE} (hE : aok ρ E) {a : aV} {v : Value} (h : aval ρ a v) : aval ρ (anrmV E a) v := by
  match a, v, h with
  | .inl l, .int x, h =>
    show x.toInt = aev ρ (anrm E l)
    rw [anrm_of hE]
    exact h
  | .inr _, _, h => exact h
theorem anrmS_of {ρ : Nat → Int} {E : aE} (hE : aok ρ E) : ∀ {l : List aV} {m : List Value}, astk ρ l m → astk ρ (l.map (anrmV E)) m
  | [], [], _ => trivial
  | _ :: _, _ :: _, h => ⟨anrmV_of hE h.1, anrmS_of hE h.2⟩
def anrmC (E : aE) (C : aC) : aC := C.map (fun q => ((q.1.1, anrm E q.1.2), anrm E q.2))
theorem anrmC_of {ρ : Nat → Int} {E : aE} (hE : aok ρ E) {C : aC} {M : xM} (h : acc ρ C M) : acc ρ (anrmC E C) M := by
  intro q hq
  obtain ⟨q', h1, h2⟩ := List.mem_map.mp hq
  subst h2
  have := h q' h1
  dsimp only
  rw [anrm_of hE, anrm_of hE]
  exact this
def anrmD (E : aE) (D : aD) : aD := D.map (fun d => (d.1, anrm E d.2))
theorem anrmD_of {ρ : Nat → Int} {E : aE} (hE : aok ρ E) {D : aD} {j : Nat} {z : Int} (h : ∃ d ∈ D, d.1 = j ∧ aev ρ d.2 = z) : ∃ d ∈ anrmD E D, d.1 = j ∧ aev ρ d.2 = z := by
  obtain ⟨d, h1, h2, h3⟩ := h
  exact ⟨(d.1, anrm E d.2), List.mem_map.mpr ⟨d, h1, rfl⟩, h2, by rw [anrm_of hE]; exact h3⟩
def apst : Instr → Bool
  | .iastore => true
  | .bastore => true
  | .castore => true
  | .iaload => true
  | .baload => true
  | .putfield _ => true
  | _ => false
def aprep (e : xEn) (f : aFr) (K : aKn) : aFr × aKn := bif apst e.1 then ((f.1, f.2.1, f.2.2.1, f.2.2.2.map (anrmV K.2.1)), (K.1, K.2.1, K.2.2.1, anrmC K.2.1 K.2.2.2.1, K.2.2.2.2.1, anrmD K.2.1 K.2.2.2.2.2.1, anrmD K.2.1 K.2.2.2.2.2.2)) else (f, K)
section ARH
variable {xs : Nat → Int32} {L : Nat} {prs : List (Nat × Nat)} {σ : aSg} {ρ ρ' : Nat → Int}
theorem aprep_of {e : xEn} {f : aFr} {fs : List aFr} {K : aKn} {M : xM} {cfr : List cFr} (hS : aHS xs L prs M K ρ (f :: fs) cfr) : (aprep e f K).1.1 = f.1 ∧ (aprep e f K).1.2.1 = f.2.1 ∧ (aprep e f K).2.1 = K.1 ∧ aHS xs L prs M (aprep e f K).2 ρ ((aprep e f K).1 :: fs) cfr := by
  unfold aprep
  cases apst e.1 with
  | false => exact ⟨rfl, rfl, rfl, hS⟩
  | true =>
    refine ⟨rfl, rfl, rfl, fun ρ' h => ?_⟩
    obtain ⟨⟨k1, k2, k3, k4, k5, k6, k7, k8⟩, kf⟩ := hS ρ' h
    refine ⟨⟨k1, k2, k3, k4, anrmC_of k3 k5, k6, fun j pr hj i => ?_, fun j r hj i => ?_⟩, ?_⟩
    · rcases k7 j pr hj i with e | e
      · exact Or.inl e
      · exact Or.inr (anrmD_of k3 e)
    · rcases k8 j r hj i with e | e
      · exact Or.inl e
      · exact Or.inr (anrmD_of k3 e)
    · match cfr, kf with
      | c :: m, kf => exact ⟨⟨kf.1.1, kf.1.2.1, kf.1.2.2.1, anrmS_of k3 kf.1.2.2.2⟩, kf.2⟩
def achD (σ : aSg) (Dc D : aD) : Bool := D.all (fun d => Dc.any (fun d' => Nat.beq d'.1 d.1 && achq σ d'.2 d.2))
theorem achD_of (hσ : ∀ k f, alS σ k = some f → ρ' k = aev ρ f) {Dc D : aD} (h : achD σ Dc D = true) {d : Nat × aL} {j : Nat} {z : Int} (hd : d ∈ D) (e1 : d.1 = j) (e2 : aev ρ d.2 = z) : ∃ d ∈ Dc, d.1 = j ∧ aev ρ' d.2 = z := by
  obtain ⟨d', h1, h2⟩ := List.any_eq_true.mp (List.all_eq_true.mp h d hd)
  rw [Bool.and_eq_true] at h2
  exact ⟨d', h1, (Nat.eq_of_beq_eq_true h2.1).trans e1, (achq_of hσ h2.2).trans e2⟩
def achKD (σ : aSg) (Kc K : aKn) : Bool :=
  σ.all (fun t => Nat.ble (t.1 + 1) Kc.1) && (Nat.ble 1 Kc.1 && (achq σ (aid 0) (aid 0) &&
  (Kc.2.1.all (fun t => match alS σ t.1 with
    | some f => apr K.2.1 K.2.2.1 (asub f (aco t.2.2)) && apr K.2.1 K.2.2.1 (asub (aco t.2.1) f)
    | none => false) &&
  (Kc.2.2.1.all (fun f => match asb σ f with
    | some g => apr K.2.1 K.2.2.1 g
    | none => false) &&
  (Kc.2.2.2.1.all (fun q => match asb σ q.1.2 with
    | some l => (match acl K.2.2.2.1 q.1.1 l with
      | some v => achq σ q.2 v
      | none => false)
    | none => false) &&
  (achU σ Kc.2.2.2.2.1 K.2.2.2.2.1 && (achD σ Kc.2.2.2.2.2.1 K.2.2.2.2.2.1 && achD σ Kc.2.2.2.2.2.2 K.2.2.2.2.2.2)))))))
theorem achKD_of {Kc K : aKn} {M : xM} {fr frc : List aFr} {cfr : List cFr} (hK : aHS xs L prs M K ρ fr cfr) (hF : achF σ frc fr = true) (h : achKD σ Kc K = true) : ∃ ρc, aHS xs L prs M Kc ρc frc cfr ∧ ∀ k f, alS σ k = some f → ρc k = aev ρ f := by
  unfold achKD at h
  simp only [Bool.and_eq_true] at h
  obtain ⟨h1, h2, h3, h4, h5, h6, h7, h8, h9⟩ := h
  obtain ⟨⟨k1, k2, k3, k4, k5, k6, k7, k8⟩, kf⟩ := hK ρ (agr_refl _ _)
  let ρc : Nat → Int := fun k => match alS σ k with
    | some f => aev ρ f
    | none => 0
  have hc : ∀ k f, alS σ k = some f → ρc k = aev ρ f := fun k f e => by
    show (match alS σ k with
      | some f => aev ρ f
      | none => 0) = _
    rw [e]
  refine ⟨ρc, fun ρ' hρ => ?_, hc⟩
  have hσ : ∀ k f, alS σ k = some f → ρ' k = aev ρ f := fun k f e => by
    rw [hρ k (Nat.le_of_ble_eq_true (List.all_eq_true.mp h1 _ (alS_mem e)))]
    exact hc k f e
  have hpr : ∀ {f : aL}, apr K.2.1 K.2.2.1 f = true → aev ρ f ≤ 0 := fun h => apr_of k3 k4 h
  refine ⟨⟨Nat.le_of_ble_eq_true h2, ?_, fun t ht => ?_, fun f hf => ?_, fun q hq => ?_, ?_, ?_, ?_⟩, achF_of hσ hF kf⟩
  · have := achq_of hσ h3
    rw [aev_id, aev_id, k2] at this
    exact this
  · have := List.all_eq_true.mp h4 t ht
    split at this
    · rename_i f e
      rw [Bool.and_eq_true] at this
      have i1 := hpr this.1
      have i2 := hpr this.2
      rw [aev_sub, aev_co] at i1 i2
      rw [hσ _ _ e]
      omega
    · cases this
  · have := List.all_eq_true.mp h5 f hf
    split at this
    · rename_i g e
      rw [← asb_of hσ e]
      exact hpr this
    · cases this
  · have := List.all_eq_true.mp h6 q hq
    split at this
    · rename_i l e
      split at this
      · rename_i v ev
        have hv := k5 _ (acl_of ev)
        rw [← asb_of hσ e, achq_of hσ this]
        exact hv
      · cases this
    · cases this
  · exact achU_of hσ k6 h7
  · intro j pr hj i
    rcases k7 j pr hj i with e | ⟨d, hd, e1, e2⟩
    · exact Or.inl e
    · exact Or.inr (achD_of hσ h8 hd e1 e2)
  · intro j r hj i
    rcases k8 j r hj i with e | ⟨d, hd, e1, e2⟩
    · exact Or.inl e
    · exact Or.inr (achD_of hσ h9 hd e1 e2)
end ARH
def asg1 (K : aKn) (q : (Nat × aL × aL) × aL) : Option aKn := bif ain32 K q.1.2.1 && ain32 K q.1.2.2 then (bif Nat.beq q.1.1 3 then
    (bif apr K.2.1 K.2.2.1 (asub (aco 0) q.1.2.2) then (bif apr K.2.1 K.2.2.1 (aadd (aco 1) q.2) then asetO K (altR K.2.1 K.2.2.1 q.1.2.1 (aco 0)) else bif apr K.2.1 K.2.2.1 (asub (aco 0) q.2) then asetO K (aleR K.2.1 K.2.2.1 (aco 0) q.1.2.1) else some K) else some K)
  else bif (Nat.beq q.1.1 7 || Nat.beq q.1.1 8) && aeqT q.1.2.2.2 [] && ileb 1 q.1.2.2.1 then
    (bif apr K.2.1 K.2.2.1 (asub (aco 0) q.1.2.1) then asetO K (aleR K.2.1 K.2.2.1 (aco 0) q.2) else bif apr K.2.1 K.2.2.1 q.1.2.1 then asetO K (aleR K.2.1 K.2.2.1 q.2 (aco 0)) else some K)
  else some K) else some K
theorem i32_rem0 {x y : Int32} {c : Int} (hy : y.toInt = c) (hc : 0 < c) (hx : x.toInt ≤ 0) : (x - x / y * y).toInt ≤ 0 := by
  have e1 := Int32.le_toInt x
  have h1 : (x / y).toInt = -((-x.toInt) / c) := by
    rw [i32_div hy hc]
    have : x.toInt.tdiv c = -((-x.toInt).tdiv c) := by rw [Int.neg_tdiv]; omega
    rw [this, Int.tdiv_eq_ediv_of_nonneg (by omega)]
  have h3 : (-x.toInt) / c * c ≤ -x.toInt := Int.ediv_mul_le _ (by omega)
  have h4 : 0 ≤ (-x.toInt) / c := Int.ediv_nonneg (by omega) (by omega)
  have h5 : 0 ≤ (-x.toInt) / c * c := Int.mul_nonneg h4 (by omega)
  have h6 : (x / y * y).toInt = -((-x.toInt) / c * c) := by
    rw [Int32.toInt_mul, h1, hy, Int.neg_mul, Int.bmod_eq_of_le] <;> omega
  rw [Int32.toInt_sub, h6, Int.bmod_eq_of_le (by omega) (by omega)]
  omega
section ASD
variable {xs : Nat → Int32} {L : Nat} {prs : List (Nat × Nat)} {ρ : Nat → Int} {K : aKn} {M : xM}
theorem asg1_of {q : (Nat × aL × aL) × aL} (hK : aHK xs L prs M K ρ) (hq : ∀ ρ', agr K.1 ρ ρ' → aun1 xs ρ' q) : ∃ K', asg1 K q = some K' ∧ aSame K K' ∧ aHK xs L prs M K' ρ := by
  have same : ∃ K', some K = some K' ∧ aSame K K' ∧ aHK xs L prs M K' ρ := ⟨K, rfl, aSame.refl K, hK⟩
  have hpr : ∀ {ρ' : Nat → Int} {l : aL}, agr K.1 ρ ρ' → apr K.2.1 K.2.2.1 l = true → aev ρ' l ≤ 0 := fun h e => apr_of (hK.EF _ h).1 (hK.EF _ h).2 e
  unfold asg1
  cases c0 : ain32 K q.1.2.1 && ain32 K q.1.2.2 with
  | false => exact same
  | true =>
    rw [Bool.and_eq_true] at c0
    have hv : ∀ ρ', agr K.1 ρ ρ' → ∃ a b : Int32, a.toInt = aev ρ' q.1.2.1 ∧ b.toInt = aev ρ' q.1.2.2 := fun ρ' h => by
      have i1 := ain32_of (hK ρ' h) c0.1
      have i2 := ain32_of (hK ρ' h) c0.2
      exact ⟨Int32.ofInt (aev ρ' q.1.2.1), Int32.ofInt (aev ρ' q.1.2.2), Int32.toInt_ofInt_of_le (by omega) (by omega), Int32.toInt_ofInt_of_le (by omega) (by omega)⟩
    dsimp only [cond_true]
    cases c1 : Nat.beq q.1.1 3 with
    | true =>
      have e3 := Nat.eq_of_beq_eq_true c1
      have hx : ∀ ρ', agr K.1 ρ ρ' → (aev ρ' q.2 < 0 ↔ ¬ (aev ρ' q.1.2.1 < 0 ↔ aev ρ' q.1.2.2 < 0)) := fun ρ' h => by
        obtain ⟨a, b, ha, hb⟩ := hv ρ' h
        have := hq ρ' h
        unfold aun1 at this
        rw [e3, if_neg (by decide), if_neg (by decide)] at this
        have h1 := this a b ha hb
        have h2 := i32_xor a b
        rw [ha, hb] at h2
        have h1 : (a ^^^ b).toInt = aev ρ' q.2 := h1
        rw [h1] at h2
        exact h2
      dsimp only [cond_true]
      cases c2 : apr K.2.1 K.2.2.1 (asub (aco 0) q.1.2.2) with
      | false => exact same
      | true =>
        have hy : ∀ ρ', agr K.1 ρ ρ' → 0 ≤ aev ρ' q.1.2.2 := fun ρ' h => by
          have := hpr h c2
          rw [aev_sub, aev_co] at this
          omega
        dsimp only [cond_true]
        cases c3 : apr K.2.1 K.2.2.1 (aadd (aco 1) q.2) with
        | true =>
          refine asetO_of hK (altR_all (P := agr K.1 ρ) (agr_refl _ _) hK.EF (fun ρ' h => ?_))
          have i1 := hpr h c3
          rw [aev_add, aev_co] at i1
          rw [aev_co]
          have i2 := (hx ρ' h).mp (by omega)
          have i3 := hy ρ' h
          omega
        | false =>
          dsimp only [cond_false]
          cases c4 : apr K.2.1 K.2.2.1 (asub (aco 0) q.2) with
          | false => exact same
          | true =>
            refine asetO_of hK (aleR_all (P := agr K.1 ρ) (agr_refl _ _) hK.EF (fun ρ' h => ?_))
            have i1 := hpr h c4
            rw [aev_sub, aev_co] at i1
            rw [aev_co]
            have i3 := hy ρ' h
            by_cases c : aev ρ' q.1.2.1 < 0
            · have := (hx ρ' h).mpr (by omega)
              omega
            · omega
    | false =>
      dsimp only [cond_false]
      cases c2 : (Nat.beq q.1.1 7 || Nat.beq q.1.1 8) && aeqT q.1.2.2.2 [] && ileb 1 q.1.2.2.1 with
      | false => exact same
      | true =>
        rw [Bool.and_eq_true, Bool.and_eq_true, Bool.or_eq_true] at c2
        obtain ⟨⟨co1, ey⟩, ec⟩ := c2
        rw [ileb_iff] at ec
        have ey := aeqT_of ey
        have hs : ∀ ρ', agr K.1 ρ ρ' → (0 ≤ aev ρ' q.1.2.1 → 0 ≤ aev ρ' q.2) ∧ (aev ρ' q.1.2.1 ≤ 0 → aev ρ' q.2 ≤ 0) := fun ρ' h => by
          obtain ⟨a, b, ha, hb⟩ := hv ρ' h
          have hb' : b.toInt = q.1.2.2.1 := by rw [hb, aev_nil ey]
          have := hq ρ' h
          unfold aun1 at this
          rw [← ha]
          rcases co1 with e | e
          · have e7 := Nat.eq_of_beq_eq_true e
            rw [e7, if_neg (by decide), if_neg (by decide)] at this
            have h1 : (a / b).toInt = aev ρ' q.2 := this a b ha hb
            rw [← h1]
            refine ⟨fun h0 => ?_, fun h0 => (i32_divb (x := a) hb' (by omega)).2.2 h0⟩
            rw [i32_divp hb' (by omega) h0]
            exact Int.ediv_nonneg h0 (by omega)
          · have e8 := Nat.eq_of_beq_eq_true e
            rw [e8, if_neg (by decide), if_neg (by decide)] at this
            have h1 : (a - a / b * b).toInt = aev ρ' q.2 := this a b ha hb
            rw [← h1]
            refine ⟨fun h0 => ?_, fun h0 => i32_rem0 hb' (by omega) h0⟩
            rw [i32_rem hb' (by omega) h0]
            exact Int.emod_nonneg _ (by omega)
        dsimp only [cond_true]
        cases c3 : apr K.2.1 K.2.2.1 (asub (aco 0) q.1.2.1) with
        | true =>
          refine asetO_of hK (aleR_all (P := agr K.1 ρ) (agr_refl _ _) hK.EF (fun ρ' h => ?_))
          have i1 := hpr h c3
          rw [aev_sub, aev_co] at i1
          rw [aev_co]
          exact (hs ρ' h).1 (by omega)
        | false =>
          dsimp only [cond_false]
          cases c4 : apr K.2.1 K.2.2.1 q.1.2.1 with
          | false => exact same
          | true =>
            refine asetO_of hK (aleR_all (P := agr K.1 ρ) (agr_refl _ _) hK.EF (fun ρ' h => ?_))
            have i1 := hpr h c4
            rw [aev_co]
            exact (hs ρ' h).2 i1
def adeadK (K : aKn) : Bool := match afold asg1 (K.2.2.2.2.1 ++ K.2.2.2.2.1) K with
  | none => true
  | some K1 => (match asat K1 with
    | none => true
    | some K' => adead K')
theorem adeadK_of (hK : aHK xs L prs M K ρ) : adeadK K = false := by
  have hu : ∀ q ∈ K.2.2.2.2.1 ++ K.2.2.2.2.1, ∀ ρ', agr K.1 ρ ρ' → aun1 xs ρ' q := by
    intro q hq ρ' h
    refine (hK ρ' h).2.2.2.2.2.1 q ?_
    rcases List.mem_append.mp hq with h1 | h1 <;> exact h1
  obtain ⟨K1, e1, s1, h1⟩ := afold_of (n := K.1) (P := fun q => ∀ ρ', agr K.1 ρ ρ' → aun1 xs ρ' q) (fun K' q hn hK' hq => asg1_of hK' (fun ρ' h => hq ρ' (by rw [← hn]; exact h))) rfl hK hu
  obtain ⟨K', e, -, h⟩ := asat_of h1
  unfold adeadK
  rw [e1]
  dsimp only
  rw [e]
  exact adead_of h
end ASD
def acutH2 (g : Nat) (ms : Option (List aL)) (c : aCut) (fr : List aFr) (K : aKn) (σ : aSg) : Bool := achF σ c.1 fr && (achKD σ c.2.1 K && ((List.range g).all (fun k => achq σ (aid k) (aid k)) && (match ms with
  | none => true
  | some os => (match asbs σ c.2.2 with
    | some ns => alex K.2.1 K.2.2.1 ns os
    | none => false))))
def acutH (g : Nat) (ms : Option (List aL)) (c : aCut) (fr : List aFr) (K : aKn) : Bool := acutH2 g ms c fr K (abnU (abnC (abnF (gseed g) c.1 fr) K.2.2.2.1 c.2.1.2.2.2.1) K.2.2.2.2.1 c.2.1.2.2.2.2.1)
def arunH (prs : List (Nat × Nat)) (cts : List aCt) (w : aW) (cuts : List aCut) (g : Nat) (ms : Option (List aL)) (res : Option (Int × Int)) : Nat → List aFr → aKn → Bool
  | 0, _, _ => false
  | n + 1, fr, K0 => match fr with
    | [] => false
    | f0 :: fs => cuts.any (fun c => akey c.1 (f0 :: fs) && (acutH g ms c (f0 :: fs) K0 || adeadK K0)) || (match xI f0.1 f0.2.1 with
      | none => false
      | some e => match aprep e f0 K0 with
        | (f, K) => match aca e f.2.2.2 with
          | some (z, as, rest) => bif Nat.ble (aargs as).length (xm z).2.2.1 then (match afind cts z as K with
            | some none => true
            | some (some (c, K1)) => (match ahav prs w c K1 with
              | none => false
              | some (r, K2) => arunH prs cts w cuts g ms res n ((f.1, f.2.1 + 3, f.2.2.1, apv r rest) :: fs) K2)
            | none => arunH prs cts w cuts g ms res n ((z, 0, axent z as, []) :: (f.1, f.2.1 + 3, f.2.2.1, rest) :: fs) K) else false
          | none => (match aret f.1 e f.2.2.2 K with
            | some r => (match fs with
              | [] => aretok res r K || adeadK K
              | g' :: gs => arunH prs cts w cuts g ms res n ((g'.1, g'.2.1, g'.2.2.1, apv r g'.2.2.2) :: gs) K)
            | none => (match aex prs w e f.2.1 f.2.2.1 f.2.2.2 K with
              | none => false
              | some l => l.all (fun t => arunH prs cts w cuts g ms res n ((f.1, t.1, t.2.1, t.2.2.1) :: fs) t.2.2.2))))
section ASH
variable {xs : Nat → Int32} {L : Nat} {prs : List (Nat × Nat)} {cts : List aCt} {w : aW} {cuts : List aCut} {g : Nat} {ms : Option (List aL)} {res : Option (Int × Int)} {M0 : xM} {Q : xZ → Prop} {ρ0 : Nat → Int}
theorem arunH_of (hp : ∀ pr ∈ prs, pr.1 ≠ pr.2) (hL : L ≤ 2560) (hct : ∀ c ∈ cts, aCon xs L c) {v : List Nat} (hQ : ∀ r, aPost res w M0 r → Q r)
    (hcut : ∀ c ∈ cuts, ∀ (ρ : Nat → Int) (M : xM) (cfr : List cFr), aHS xs L prs M c.2.1 ρ c.1 cfr → aInv M → aUnw w M0 M → agr g ρ0 ρ → (ms = none ∨ alt (c.2.2.map (fun m => (aev ρ m).toNat)) v) → aGl xs L Q M cfr) :
    ∀ (n : Nat) (fr : List aFr) (K : aKn) (ρ : Nat → Int) (M : xM) (cfr : List cFr), arunH prs cts w cuts g ms res n fr K = true → aHS xs L prs M K ρ fr cfr → aInv M → aUnw w M0 M → g ≤ K.1 → agr g ρ0 ρ → (∀ os, ms = some os → ∀ ρ', agr K.1 ρ ρ' → os.map (fun m => (aev ρ' m).toNat) = v) → aGl xs L Q M cfr
  | 0, _, _, _, _, _, h, _, _, _, _, _, _ => by cases h
  | n + 1, [], _, _, _, _, h, _, _, _, _, _, _ => by cases h
  | n + 1, f0 :: fs, K0, ρ, M, cfr, h, hS0, hM, hU, hg0, hgr, hm0 => by
    have ih := arunH_of hp hL hct hQ hcut n
    unfold arunH at h
    dsimp only at h
    rw [Bool.or_eq_true] at h
    rcases h with h | h
    · obtain ⟨c, hc, e⟩ := List.any_eq_true.mp h
      rw [Bool.and_eq_true] at e
      have e := e.2
      rw [adeadK_of (fun ρ' hρ => (hS0 ρ' hρ).1), Bool.or_false] at e
      unfold acutH acutH2 at e
      rw [Bool.and_eq_true, Bool.and_eq_true, Bool.and_eq_true] at e
      obtain ⟨e1, e2, e4, e3⟩ := e
      obtain ⟨ρc, h1, h2⟩ := achKD_of hS0 e1 e2
      refine hcut c hc ρc M cfr h1 hM hU (fun k hk => ?_) ?_
      · have h3 := achq_of h2 (List.all_eq_true.mp e4 k (List.mem_range.mpr hk))
        rw [aev_id, aev_id] at h3
        rw [h3]
        exact hgr k hk
      · cases hms : ms with
        | none => exact Or.inl rfl
        | some os =>
          rw [hms] at e3
          dsimp only at e3
          split at e3
          · rename_i ns en
            have hEF := (hS0 ρ (agr_refl _ _)).1
            have ha := alex_of hEF.2.2.1 hEF.2.2.2.1 e3
            rw [asbs_of h2 en, hm0 os hms ρ (agr_refl _ _)] at ha
            exact Or.inr ha
          · cases e3
    · split at h
      · cases h
      · rename_i e he0
        obtain ⟨pf1, pf2, pK, hS⟩ := aprep_of (e := e) hS0
        generalize aprep e f0 K0 = fk at h pf1 pf2 pK hS
        obtain ⟨f, K⟩ := fk
        dsimp only at h pf1 pf2 pK hS
        have he : xI f.1 f.2.1 = some e := by rw [pf1, pf2]; exact he0
        have hg : g ≤ K.1 := by rw [pK]; exact hg0
        have hm : ∀ os, ms = some os → ∀ ρ', agr K.1 ρ ρ' → os.map (fun m => (aev ρ' m).toNat) = v := by rw [pK]; exact hm0
        clear hS0 he0 hg0 hm0 pf1 pf2 pK
        match cfr, hS with
        | [], hS => exact (hS ρ (agr_refl _ _)).2.elim
        | (y, pc, plc, skc) :: cfs, hS =>
          have hS0 := (hS ρ (agr_refl _ _)).2
          have ey : y = f.1 := hS0.1.1
          have epc : pc = f.2.1 := hS0.1.2.1
          subst ey; subst epc
          have hR : aHR xs L prs M K ρ f.2.2.1 f.2.2.2 plc skc := fun ρ' hρ => ⟨(hS ρ' hρ).1, (hS ρ' hρ).2.1.2.2.1, (hS ρ' hρ).2.1.2.2.2⟩
          have hfs : ∀ ρ', agr K.1 ρ ρ' → afrs ρ' fs cfs := fun ρ' hρ => (hS ρ' hρ).2.2
          show PL xs L f.1 (f.2.1, plc, skc, 102, xsh0, M) (acont xs L Q cfs)
          have hst : ∀ {q}, xex xs L f.1 e (f.2.1, plc, skc, 102, xsh0, M) = some q → xstep xs L f.1 (f.2.1, plc, skc, 102, xsh0, M) = some q := fun hq => by
            unfold xstep
            dsimp only
            rw [he]
            exact hq
          split at h
          · rename_i z as rest hca
            obtain ⟨asc, restc, hx, hx2⟩ := aca_of (xs := xs) (L := L) (y := f.1) (pc := f.2.1) (plc := plc) (M := M) hca hR.s
            have has : ∀ ρ', agr K.1 ρ ρ' → astk ρ' as asc := fun ρ' hρ => (hx2 ρ' (hR ρ' hρ).2.2).1
            have hre : ∀ ρ', agr K.1 ρ ρ' → astk ρ' rest restc := fun ρ' hρ => (hx2 ρ' (hR ρ' hρ).2.2).2
            cases cl : Nat.ble (aargs as).length (xm z).2.2.1 with
            | false => rw [cl] at h; cases h
            | true =>
              rw [cl] at h
              have hlen : (xargs asc).length ≤ (xm z).2.2.1 := by
                rw [aloc_len (aargs_of (has ρ (agr_refl _ _)))]
                exact Nat.le_of_ble_eq_true cl
              dsimp only [cond_true] at h
              split at h
              · rename_i ef
                obtain ⟨c, K1, e', -⟩ := afind_of hR.kn has ef
                cases e'
              · rename_i c K1 ef
                obtain ⟨c', K1', e', hc, hz, s1, hK1, hpv, hpre⟩ := afind_of hR.kn has ef
                cases e'
                split at h
                · cases h
                · rename_i r K2 eh
                  unfold ahav at eh
                  cases cw : anil K1.2.2.2.2.2.2 && awsub c.2.2.2.2 w && prs.all (fun pr => !(awp c.2.2.2.2 pr.1) && !(awp c.2.2.2.2 pr.2)) with
                  | false => rw [cw] at eh; cases eh
                  | true =>
                    rw [cw] at eh
                    rw [Bool.and_eq_true, Bool.and_eq_true] at cw
                    dsimp only [cond_true] at eh
                    have hRk : aRk M := fun j r hj i => by
                      rcases (hK1 ρ (agr_refl _ _)).2.2.2.2.2.2.2 j r hj i with z | ⟨d, hd, -⟩
                      · exact z
                      · rw [anil_of cw.1.1] at hd
                        cases hd
                    refine PL.callL (hst hx) hlen ?_
                    have hcon := hct c hc M asc hM hRk hpv hpre
                    rw [hz] at hcon
                    refine hcon.imp (fun r' hr' => ?_)
                    obtain ⟨rv, rnz, rsh, rM⟩ := r'
                    obtain ⟨M', er, hM', hRk', hres, hU'⟩ := hr'
                    cases er
                    refine ⟨rfl, ?_⟩
                    have hK2 := ahavK_of cw.2 hRk' hU' hK1
                    have hUU : aUnw w M0 rM := hU.trans (fun p i e => hU' p i (awsub_of cw.1.2 e))
                    have fin : ∀ (ρ2 : Nat → Int), K.1 ≤ K2.1 → agr K.1 ρ ρ2 → (∀ ρ', agr K2.1 ρ2 ρ' → aKok xs L prs aRws ρ' K2 rM ∧ aretv ρ' r rv) → PL xs L f.1 (f.2.1 + 3, plc, rv.toList ++ restc, 102, xsh0, rM) (acont xs L Q cfs) := by
                      intro ρ2 hn hag hk
                      refine ih ((f.1, f.2.1 + 3, f.2.2.1, apv r rest) :: fs) K2 ρ2 rM ((f.1, f.2.1 + 3, plc, rv.toList ++ restc) :: cfs) h (fun ρ' hρ => ?_) hM' hUU (Nat.le_trans hg hn) (agr_trans (Nat.le_refl _) hgr (fun k hk => hag k (Nat.lt_of_lt_of_le hk hg))) (fun os hos ρ' hρ => hm os hos ρ' (agr_trans hn hag hρ))
                      have hρ0 := agr_trans hn hag hρ
                      exact ⟨(hk ρ' hρ).1, ⟨rfl, rfl, (hR ρ' hρ0).2.1, astk_apv (hk ρ' hρ).2 (hre ρ' hρ0)⟩, hfs ρ' hρ0⟩
                    split at eh
                    · rename_i ers
                      cases eh
                      rw [ers] at hres
                      have erv : rv = none := by
                        cases rv with
                        | none => rfl
                        | some q => exact hres.elim
                      subst erv
                      exact fin ρ (by rw [← s1.1]; exact Nat.le_refl _) (agr_refl _ _) (fun ρ' hρ => ⟨hK2 ρ' hρ, trivial⟩)
                    · rename_i q ers
                      cases eh
                      rw [ers] at hres
                      match rv, hres with
                      | some (.int x), hres =>
                        obtain ⟨ρ2, g1, g2, g3⟩ := afr_of (q := q) (z := x.toInt) hK2 hres
                        have hn : (ahavK c.2.2.2.2 K1).1 = K.1 := s1.1
                        rw [hn] at g1 g2
                        exact fin ρ2 g1 g2 g3
              · refine PL.callL (hst hx) hlen ?_
                exact ih ((z, 0, axent z as, []) :: (f.1, f.2.1 + 3, f.2.2.1, rest) :: fs) K ρ M ((z, 0, xent z asc, []) :: (f.1, f.2.1 + 3, plc, restc) :: cfs) h (fun ρ' hρ => ⟨(hS ρ' hρ).1, ⟨rfl, rfl, axent_of (has ρ' hρ), trivial⟩, ⟨rfl, rfl, (hR ρ' hρ).2.1, hre ρ' hρ⟩, hfs ρ' hρ⟩) hM hU hg hgr hm
          · split at h
            · rename_i r hrt
              obtain ⟨rv, hx, hx2⟩ := aret_of (xs := xs) (L := L) (y := f.1) (pc := f.2.1) (plc := plc) (hR.kn ρ (agr_refl _ _)) hrt hR.s
              refine PL.ret (hst hx) ?_
              split at h
              · match cfs, hfs with
                | [], _ =>
                  rw [adeadK_of hR.kn, Bool.or_false] at h
                  unfold aretok at h
                  rw [Bool.and_eq_true] at h
                  refine hQ _ ⟨M, rfl, hM, fun j r' hj i => ?_, ?_, hU⟩
                  · rcases (hR.kn ρ (agr_refl _ _)).2.2.2.2.2.2.2 j r' hj i with z | ⟨d, hd, -⟩
                    · exact z
                    · rw [anil_of h.1] at hd
                      cases hd
                  · have h2 := h.2
                    have hv := hx2 ρ hR.s
                    split at h2
                    · match rv, hv with
                      | none, _ => exact trivial
                    · rename_i q l
                      match rv, hv with
                      | some (.int x), hv =>
                        have hb := abt_of (hR.kn ρ (agr_refl _ _)) h2
                        have hv : x.toInt = aev ρ l := hv
                        rw [← hv] at hb
                        exact hb
                    · cases h2
                | g :: gs, hfs => exact (hfs ρ (agr_refl _ _)).elim
              · rename_i g gs _x
                match cfs, hfs with
                | [], hfs => exact (hfs ρ (agr_refl _ _)).elim
                | (y', pc', plc', skc') :: cgs, hfs =>
                  have hf0 := hfs ρ (agr_refl _ _)
                  have ey : y' = g.1 := hf0.1.1
                  have epc : pc' = g.2.1 := hf0.1.2.1
                  subst ey; subst epc
                  refine ⟨rfl, ?_⟩
                  exact ih ((g.1, g.2.1, g.2.2.1, apv r g.2.2.2) :: gs) K ρ M ((g.1, g.2.1, plc', rv.toList ++ skc') :: cgs) h (fun ρ' hρ => ⟨(hS ρ' hρ).1, ⟨rfl, rfl, (hfs ρ' hρ).1.2.2.1, astk_apv (hx2 ρ' (hR ρ' hρ).2.2) (hfs ρ' hρ).1.2.2.2⟩, (hfs ρ' hρ).2⟩) hM hU hg hgr hm
            · split at h
              · cases h
              · rename_i l hex
                obtain ⟨t, ht, ρ2, plc', skc', M', hx, hn, hag, hR', hM', hU'⟩ := aex_of (y := f.1) hp hL hex hM hR
                refine PL.next (hst hx) ?_
                exact ih ((f.1, t.1, t.2.1, t.2.2.1) :: fs) t.2.2.2 ρ2 M' ((f.1, t.1, plc', skc') :: cfs) (List.all_eq_true.mp h t ht) (fun ρ' hρ => ⟨(hR' ρ' hρ).1, ⟨rfl, rfl, (hR' ρ' hρ).2.1, (hR' ρ' hρ).2.2⟩, hfs ρ' (agr_trans hn hag hρ)⟩) hM' (hU.trans hU') (Nat.le_trans hg hn) (agr_trans (Nat.le_refl _) hgr (fun k hk => hag k (Nat.lt_of_lt_of_le hk hg))) (fun os hos ρ' hρ => hm os hos ρ' (agr_trans hn hag hρ))
/-- cuts that run to one another, less and less; some by hand -/
def acksH (prs : List (Nat × Nat)) (cts : List aCt) (w : aW) (res : Option (Int × Int)) (k N : Nat) (ins outs : List aCut) : Bool := outs.all (fun c => Nat.beq c.2.2.length k) && ins.all (fun c => Nat.beq c.2.2.length k && c.2.2.all (awl c.2.1.1) && arunH prs cts w (ins ++ outs) 1 (some c.2.2) res N c.1 c.2.1)
theorem acksH_of {k N : Nat} {ins outs : List aCut} (hp : ∀ pr ∈ prs, pr.1 ≠ pr.2) (hL : L ≤ 2560) (hct : ∀ c ∈ cts, aCon xs L c) (hQ : ∀ r, aPost res w M0 r → Q r) (h : acksH prs cts w res k N ins outs = true)
    (hout : ∀ c ∈ outs, ∀ (ρ : Nat → Int) (M : xM) (cfr : List cFr), (∀ c' ∈ ins ++ outs, ∀ (ρ' : Nat → Int) (M' : xM) (cfr' : List cFr), alt (c'.2.2.map (fun m => (aev ρ' m).toNat)) (c.2.2.map (fun m => (aev ρ m).toNat)) → aHS xs L prs M' c'.2.1 ρ' c'.1 cfr' → aInv M' → aUnw w M0 M' → aGl xs L Q M' cfr') → aHS xs L prs M c.2.1 ρ c.1 cfr → aInv M → aUnw w M0 M → aGl xs L Q M cfr) : ∀ c ∈ ins ++ outs, ∀ (ρ : Nat → Int) (M : xM) (cfr : List cFr), aHS xs L prs M c.2.1 ρ c.1 cfr → aInv M → aUnw w M0 M → aGl xs L Q M cfr := by
  unfold acksH at h
  rw [Bool.and_eq_true] at h
  have hlen : ∀ c ∈ ins ++ outs, c.2.2.length = k := fun c hc => by
    rcases List.mem_append.mp hc with hc | hc
    · have hk := List.all_eq_true.mp h.2 c hc
      rw [Bool.and_eq_true, Bool.and_eq_true] at hk
      exact Nat.eq_of_beq_eq_true hk.1.1
    · exact Nat.eq_of_beq_eq_true (List.all_eq_true.mp h.1 c hc)
  have key : ∀ v : List Nat, Acc aLt v → v.length = k → ∀ c ∈ ins ++ outs, ∀ (ρ : Nat → Int) (M : xM) (cfr : List cFr), c.2.2.map (fun m => (aev ρ m).toNat) = v → aHS xs L prs M c.2.1 ρ c.1 cfr → aInv M → aUnw w M0 M → aGl xs L Q M cfr := by
    intro v hv
    induction hv with
    | intro v _ ih =>
      intro hl c hc ρ M cfr hcv hS hM hU
      have step : ∀ c' ∈ ins ++ outs, ∀ (ρ' : Nat → Int) (M' : xM) (cfr' : List cFr), alt (c'.2.2.map (fun m => (aev ρ' m).toNat)) v → aHS xs L prs M' c'.2.1 ρ' c'.1 cfr' → aInv M' → aUnw w M0 M' → aGl xs L Q M' cfr' := by
        intro c' hc' ρ' M' cfr' ha hS' hM' hU'
        have hl' : (c'.2.2.map (fun m => (aev ρ' m).toNat)).length = k := by rw [List.length_map]; exact hlen c' hc'
        exact ih _ ⟨hl'.trans hl.symm, ha⟩ hl' c' hc' ρ' M' cfr' rfl hS' hM' hU'
      rcases List.mem_append.mp hc with hc | hc
      · have hk := List.all_eq_true.mp h.2 c hc
        rw [Bool.and_eq_true, Bool.and_eq_true] at hk
        refine arunH_of hp hL hct (ms := some c.2.2) (v := v) (cuts := ins ++ outs) (g := 1) (ρ0 := ρ) hQ ?_ N c.1 c.2.1 ρ M cfr hk.2 hS hM hU (hS ρ (agr_refl _ _)).1.1 (agr_refl _ _) ?_
        · intro c' hc' ρ' M' cfr' hS' hM' hU' _ ha
          rcases ha with ha | ha
          · cases ha
          · exact step c' hc' ρ' M' cfr' ha hS' hM' hU'
        · intro os hos ρ' hρ
          cases hos
          rw [← hcv]
          exact List.map_congr_left (fun m hm => by rw [awl_of hρ (List.all_eq_true.mp hk.1.2 m hm)])
      · exact hout c hc ρ M cfr (fun c' hc' ρ' M' cfr' ha => step c' hc' ρ' M' cfr' (by rw [← hcv]; exact ha)) hS hM hU
  intro c hc ρ M cfr hS hM hU
  have hl : (c.2.2.map (fun m => (aev ρ m).toNat)).length = k := by rw [List.length_map]; exact hlen c hc
  exact key _ (alt_acc k _ hl) hl c hc ρ M cfr rfl hS hM hU
end ASH
