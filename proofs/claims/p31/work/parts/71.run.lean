/-! THE ANALYZER, ten: cuts, the run -/
abbrev aSg : Type := List (Nat × aL)
def alS : aSg → Nat → Option aL
  | [], _ => none
  | t :: l, k => bif Nat.beq t.1 k then some t.2 else alS l k
theorem alS_mem {k : Nat} {f : aL} : ∀ {σ : aSg}, alS σ k = some f → (k, f) ∈ σ
  | [], h => by cases h
  | t :: l, h => by
    unfold alS at h
    cases c : Nat.beq t.1 k with
    | true =>
      rw [c] at h
      cases h
      rw [← Nat.eq_of_beq_eq_true c]
      exact List.mem_cons_self ..
    | false =>
      rw [c] at h
      exact List.mem_cons_of_mem _ (alS_mem h)
def asbT (σ : aSg) : List (Nat × Int) → Option aL
  | [] => some (0, [])
  | t :: l => match alS σ t.1, asbT σ l with
    | some f, some g => some (aadd (amul t.2 f) g)
    | _, _ => none
def asb (σ : aSg) (l : aL) : Option aL := match asbT σ l.2 with
  | some g => some (aadd (aco l.1) g)
  | none => none
section ASB
variable {σ : aSg} {ρ ρ' : Nat → Int}
theorem asbT_of (hσ : ∀ k f, alS σ k = some f → ρ' k = aev ρ f) : ∀ {l : List (Nat × Int)} {f : aL}, asbT σ l = some f → aev ρ f = aevT ρ' l
  | [], f, h => by
    cases h
    exact Int.add_zero 0
  | t :: l, f, h => by
    unfold asbT at h
    split at h
    · rename_i g r e1 e2
      cases h
      rw [aev_add, aev_mul, asbT_of hσ e2, ← hσ _ _ e1]
      rfl
    · cases h
theorem asb_of (hσ : ∀ k f, alS σ k = some f → ρ' k = aev ρ f) {l f : aL} (h : asb σ l = some f) : aev ρ f = aev ρ' l := by
  unfold asb at h
  split at h
  · rename_i g e
    cases h
    rw [aev_add, aev_co, asbT_of hσ e]
    rfl
  · cases h
end ASB
def abn (σ : aSg) (p a : aL) : aSg := match p with
  | (c, [t]) => bif ieqb c 0 && ieqb t.2 1 then (match alS σ t.1 with
    | none => (t.1, a) :: σ
    | some _ => σ) else σ
  | _ => σ
def abnV (σ : aSg) : aV → aV → aSg
  | .inl p, .inl a => abn σ p a
  | .inr (.inl (some p)), .inr (.inl (some a)) => abn σ p a
  | _, _ => σ
def abnL (σ : aSg) : List (Option aV) → List (Option aV) → aSg
  | some p :: l, some a :: m => abnL (abnV σ p a) l m
  | _ :: l, _ :: m => abnL σ l m
  | _, _ => σ
def abnS (σ : aSg) : List aV → List aV → aSg
  | p :: l, a :: m => abnS (abnV σ p a) l m
  | _, _ => σ
def abnF (σ : aSg) : List aFr → List aFr → aSg
  | p :: l, a :: m => abnF (abnS (abnL σ p.2.2.1 a.2.2.1) p.2.2.2 a.2.2.2) l m
  | _, _ => σ
def abnC (σ : aSg) (C : aC) : aC → aSg
  | [] => σ
  | q :: l => abnC (match asb σ q.1.2 with
    | some l' => (match acl C q.1.1 l' with
      | some v => abn σ q.2 v
      | none => σ)
    | none => σ) C l
def achq (σ : aSg) (p a : aL) : Bool := match asb σ p with
  | some f => aeql f a
  | none => false
def achV (σ : aSg) : aV → aV → Bool
  | .inl p, .inl a => achq σ p a
  | .inr (.inl none), .inr (.inl _) => true
  | .inr (.inl (some p)), .inr (.inl (some a)) => achq σ p a
  | .inr (.inr (.inl p)), .inr (.inr (.inl q)) => Nat.beq p q
  | _, _ => false
def achL (σ : aSg) : List (Option aV) → List (Option aV) → Bool
  | [], [] => true
  | none :: l, none :: m => achL σ l m
  | none :: l, some a :: m => ac1 a && achL σ l m
  | some p :: l, some a :: m => achV σ p a && achL σ l m
  | _, _ => false
def achS (σ : aSg) : List aV → List aV → Bool
  | [], [] => true
  | p :: l, a :: m => achV σ p a && achS σ l m
  | _, _ => false
def achF (σ : aSg) : List aFr → List aFr → Bool
  | [], [] => true
  | p :: l, a :: m => Nat.beq p.1 a.1 && (Nat.beq p.2.1 a.2.1 && (achL σ p.2.2.1 a.2.2.1 && (achS σ p.2.2.2 a.2.2.2 && achF σ l m)))
  | _, _ => false
def anil {α : Type} : List α → Bool
  | [] => true
  | _ => false
theorem anil_of {α : Type} {l : List α} (h : anil l = true) : l = [] := by
  cases l with
  | nil => rfl
  | cons a l => cases h
def achK (σ : aSg) (Kc K : aKn) : Bool :=
  σ.all (fun t => Nat.ble (t.1 + 1) Kc.1) && (Nat.ble 1 Kc.1 && (achq σ (aid 0) (aid 0) &&
  (Kc.2.1.all (fun t => match alS σ t.1 with
    | some f => apr K.2.1 K.2.2.1 (asub f (aco t.2.2)) && apr K.2.1 K.2.2.1 (asub (aco t.2.1) f)
    | none => false) &&
  (Kc.2.2.1.all (fun f => match asb σ f with
    | some g => apr K.2.1 K.2.2.1 g
    | none => false) &&
  (Kc.2.2.2.1.all (fun q => match asb σ q.1.2 with
    | some l => (match acl K.2.2.2.1 q.1.1 l with
      | some v => achq σ q.2 v
      | none => false)
    | none => false) &&
  (anil Kc.2.2.2.2.1 && (anil K.2.2.2.2.2.1 && anil K.2.2.2.2.2.2)))))))
section ACH
variable {xs : Nat → Int32} {L : Nat} {prs : List (Nat × Nat)} {σ : aSg} {ρ ρ' : Nat → Int}
theorem achq_of (hσ : ∀ k f, alS σ k = some f → ρ' k = aev ρ f) {p a : aL} (h : achq σ p a = true) : aev ρ' p = aev ρ a := by
  unfold achq at h
  split at h
  · rename_i f e
    rw [← aeql_of h, asb_of hσ e]
  · cases h
theorem achV_of (hσ : ∀ k f, alS σ k = some f → ρ' k = aev ρ f) : ∀ {p a : aV} {v : Value}, achV σ p a = true → aval ρ a v → aval ρ' p v
  | .inl p, .inl a, .int x, h, hv => by
    have hv : x.toInt = aev ρ a := hv
    show x.toInt = aev ρ' p
    rw [hv, achq_of hσ h]
  | .inr (.inl none), .inr (.inl (some _)), .long _, _, _ => trivial
  | .inr (.inl none), .inr (.inl none), .long _, _, _ => trivial
  | .inr (.inl (some p)), .inr (.inl (some a)), .long x, h, hv => by
    have hv : x.toInt = aev ρ a := hv
    show x.toInt = aev ρ' p
    rw [hv, achq_of hσ h]
  | .inr (.inr (.inl p)), .inr (.inr (.inl q)), .ref x, h, hv => by
    have hv : x = q := hv
    show x = p
    rw [hv, Nat.eq_of_beq_eq_true h]
theorem achL_of (hσ : ∀ k f, alS σ k = some f → ρ' k = aev ρ f) : ∀ {l m : List (Option aV)} {c : List (Option Value)}, achL σ l m = true → aloc ρ m c → aloc ρ' l c
  | [], [], [], _, _ => trivial
  | none :: l, none :: m, none :: c, h, hc => ⟨trivial, achL_of (l := l) hσ h hc.2⟩
  | none :: l, none :: m, some v :: c, h, hc => ⟨hc.1, achL_of (l := l) hσ h hc.2⟩
  | none :: l, some a :: m, some v :: c, h, hc => by
    have h : (ac1 a && achL σ l m) = true := h
    rw [Bool.and_eq_true] at h
    exact ⟨ac1_of hc.1 h.1, achL_of hσ h.2 hc.2⟩
  | some p :: l, some a :: m, some v :: c, h, hc => by
    have h : (achV σ p a && achL σ l m) = true := h
    rw [Bool.and_eq_true] at h
    exact ⟨achV_of hσ h.1 hc.1, achL_of hσ h.2 hc.2⟩
  | some _ :: _, none :: _, _, h, _ => by cases h
theorem achS_of (hσ : ∀ k f, alS σ k = some f → ρ' k = aev ρ f) : ∀ {l m : List aV} {c : List Value}, achS σ l m = true → astk ρ m c → astk ρ' l c
  | [], [], [], _, _ => trivial
  | p :: l, a :: m, v :: c, h, hc => by
    have h : (achV σ p a && achS σ l m) = true := h
    rw [Bool.and_eq_true] at h
    exact ⟨achV_of hσ h.1 hc.1, achS_of hσ h.2 hc.2⟩
theorem achF_of (hσ : ∀ k f, alS σ k = some f → ρ' k = aev ρ f) : ∀ {l m : List aFr} {c : List cFr}, achF σ l m = true → afrs ρ m c → afrs ρ' l c
  | [], [], [], _, _ => trivial
  | p :: l, a :: m, f :: c, h, hc => by
    unfold achF at h
    rw [Bool.and_eq_true, Bool.and_eq_true, Bool.and_eq_true, Bool.and_eq_true] at h
    obtain ⟨h1, h2, h3, h4, h5⟩ := h
    obtain ⟨⟨c1, c2, c3, c4⟩, c5⟩ := hc
    exact ⟨⟨c1.trans (Nat.eq_of_beq_eq_true h1).symm, c2.trans (Nat.eq_of_beq_eq_true h2).symm, achL_of hσ h3 c3, achS_of hσ h4 c4⟩, achF_of hσ h5 c5⟩
theorem achK_of {Kc K : aKn} {M : xM} {fr frc : List aFr} {cfr : List cFr} (hK : aHS xs L prs M K ρ fr cfr) (hF : achF σ frc fr = true) (h : achK σ Kc K = true) : ∃ ρc, aHS xs L prs M Kc ρc frc cfr ∧ ∀ k f, alS σ k = some f → ρc k = aev ρ f := by
  unfold achK at h
  simp only [Bool.and_eq_true] at h
  obtain ⟨h1, h2, h3, h4, h5, h6, h7, h8, h9⟩ := h
  obtain ⟨⟨k1, k2, k3, k4, k5, k6, k7, k8⟩, kf⟩ := hK ρ (agr_refl _ _)
  rw [anil_of h8] at k7
  rw [anil_of h9] at k8
  let ρc : Nat → Int := fun k => match alS σ k with
    | some f => aev ρ f
    | none => 0
  have hc : ∀ k f, alS σ k = some f → ρc k = aev ρ f := fun k f e => by
    show (match alS σ k with
      | some f => aev ρ f
      | none => 0) = _
    rw [e]
  refine ⟨ρc, fun ρ' hρ => ?_, hc⟩
  have hσ : ∀ k f, alS σ k = some f → ρ' k = aev ρ f := fun k f e => by
    rw [hρ k (Nat.le_of_ble_eq_true (List.all_eq_true.mp h1 _ (alS_mem e)))]
    exact hc k f e
  have hpr : ∀ {f : aL}, apr K.2.1 K.2.2.1 f = true → aev ρ f ≤ 0 := fun h => apr_of k3 k4 h
  refine ⟨⟨Nat.le_of_ble_eq_true h2, ?_, fun t ht => ?_, fun f hf => ?_, fun q hq => ?_, ?_, ?_, ?_⟩, achF_of hσ hF kf⟩
  · have := achq_of hσ h3
    rw [aev_id, aev_id, k2] at this
    exact this
  · have := List.all_eq_true.mp h4 t ht
    split at this
    · rename_i f e
      rw [Bool.and_eq_true] at this
      have i1 := hpr this.1
      have i2 := hpr this.2
      rw [aev_sub, aev_co] at i1 i2
      rw [hσ _ _ e]
      omega
    · cases this
  · have := List.all_eq_true.mp h5 f hf
    split at this
    · rename_i g e
      rw [← asb_of hσ e]
      exact hpr this
    · cases this
  · have := List.all_eq_true.mp h6 q hq
    split at this
    · rename_i l e
      split at this
      · rename_i v ev
        have hv := k5 _ (acl_of ev)
        rw [← asb_of hσ e, achq_of hσ this]
        exact hv
      · cases this
    · cases this
  · rw [anil_of h7]
    exact fun q hq => by cases hq
  · intro j pr hj i
    rcases k7 j pr hj i with e | ⟨d, hd, -⟩
    · exact Or.inl e
    · cases hd
  · intro j r hj i
    rcases k8 j r hj i with e | ⟨d, hd, -⟩
    · exact Or.inl e
    · cases hd
end ACH
-- ---- measures
def alt : List Nat → List Nat → Prop
  | a :: l, b :: m => a < b ∨ (a = b ∧ alt l m)
  | _, _ => False
def aLt (a b : List Nat) : Prop := a.length = b.length ∧ alt a b
theorem alt_acc : ∀ (k : Nat) (l : List Nat), l.length = k → Acc aLt l
  | 0, [], _ => Acc.intro _ (fun b h => by
    match b, h with
    | [], h => exact h.2.elim
    | _ :: _, h => cases h.1)
  | k + 1, x :: m, h => by
    have ih := alt_acc k
    induction x using Nat.strongRecOn generalizing m with
    | _ x ihx =>
      have hm : m.length = k := Nat.succ.inj h
      have am : Acc aLt m := ih m hm
      induction am with
      | intro m _ ihm =>
        refine Acc.intro _ (fun b hb => ?_)
        match b, hb with
        | [], hb => cases hb.1
        | y :: m', hb =>
          have hl : m'.length = m.length := Nat.succ.inj hb.1
          rcases hb.2 with hlt | ⟨he, ha⟩
          · exact ihx y hlt m' (by rw [List.length_cons, hl, hm])
          · subst he
            exact ihm m' ⟨hl, ha⟩ (by rw [List.length_cons, hl, hm]) (hl.trans hm)
def alex (E : aE) (F : List aL) : List aL → List aL → Bool
  | n :: ns, o :: os => (apr E F (aadd (aco 1) (asub n o)) && apr E F (asub (aco 1) o)) || (apr E F (asub n o) && alex E F ns os)
  | _, _ => false
theorem alex_of {ρ : Nat → Int} {E : aE} {F : List aL} (hE : aok ρ E) (hF : afk ρ F) : ∀ {ns os : List aL}, alex E F ns os = true → alt (ns.map (fun m => (aev ρ m).toNat)) (os.map (fun m => (aev ρ m).toNat))
  | [], _, h => by cases h
  | _ :: _, [], h => by cases h
  | n :: ns, o :: os, h => by
    unfold alex at h
    rw [Bool.or_eq_true, Bool.and_eq_true, Bool.and_eq_true] at h
    rcases h with h | h
    · have i1 := apr_of hE hF h.1
      have i2 := apr_of hE hF h.2
      rw [aev_add, aev_co, aev_sub] at i1
      rw [aev_sub, aev_co] at i2
      exact Or.inl (show (aev ρ n).toNat < (aev ρ o).toNat by omega)
    · have i1 := apr_of hE hF h.1
      rw [aev_sub] at i1
      have ih := alex_of hE hF h.2
      by_cases c : (aev ρ n).toNat = (aev ρ o).toNat
      · exact Or.inr ⟨c, ih⟩
      · exact Or.inl (show (aev ρ n).toNat < (aev ρ o).toNat by omega)
def asbs (σ : aSg) : List aL → Option (List aL)
  | [] => some []
  | m :: l => match asb σ m, asbs σ l with
    | some f, some g => some (f :: g)
    | _, _ => none
theorem asbs_of {σ : aSg} {ρ ρ' : Nat → Int} (hσ : ∀ k f, alS σ k = some f → ρ' k = aev ρ f) : ∀ {l m : List aL}, asbs σ l = some m → m.map (fun m => (aev ρ m).toNat) = l.map (fun m => (aev ρ' m).toNat)
  | [], m, h => by cases h; rfl
  | a :: l, m, h => by
    unfold asbs at h
    split at h
    · rename_i f g e1 e2
      cases h
      rw [List.map_cons, List.map_cons, asb_of hσ e1, asbs_of hσ e2]
    · cases h
abbrev aCut : Type := List aFr × aKn × List aL
def akey : List aFr → List aFr → Bool
  | p :: _, a :: _ => Nat.beq p.2.1 a.2.1 && Nat.beq p.1 a.1
  | _, _ => false
def acut2 (ms : Option (List aL)) (c : aCut) (fr : List aFr) (K : aKn) (σ : aSg) : Bool := achF σ c.1 fr && (achK σ c.2.1 K && (match ms with
  | none => true
  | some os => (match asbs σ c.2.2 with
    | some ns => alex K.2.1 K.2.2.1 ns os
    | none => false)))
def acut1 (ms : Option (List aL)) (c : aCut) (fr : List aFr) (K : aKn) : Bool := acut2 ms c fr K (abnC (abnF [(0, aid 0)] c.1 fr) K.2.2.2.1 c.2.1.2.2.2.1)
-- ---- calls by contract
def acargs : List aPt → List aV → Option (List aL)
  | [], [] => some []
  | .inl q :: l, .inl v :: m => (match acargs l m with
    | some r => some (aqc q v ++ r)
    | none => none)
  | .inr (.inl _) :: l, .inr (.inl _) :: m => acargs l m
  | .inr (.inr p) :: l, .inr (.inr (.inl q)) :: m => bif Nat.beq q p then acargs l m else none
  | _, _ => none
theorem acargs_of {ρ : Nat → Int} : ∀ {ps : List aPt} {as : List aV} {vs : List Value} {cs : List aL}, acargs ps as = some cs → (∀ c ∈ cs, aev ρ c ≤ 0) → astk ρ as vs → aPvs ps vs
  | [], [], [], _, _, _, _ => trivial
  | .inl q :: l, .inl v :: m, .int x :: vs, cs, h, hc, hs => by
    unfold acargs at h
    split at h
    · rename_i r e
      cases h
      have hb := aqc_of (q := q) (v := v) (fun c hcc => hc c (List.mem_append_left _ hcc))
      have hx : x.toInt = aev ρ v := hs.1
      rw [← hx] at hb
      exact ⟨hb, acargs_of e (fun c hcc => hc c (List.mem_append_right _ hcc)) hs.2⟩
    · cases h
  | .inr (.inl u) :: l, .inr (.inl o) :: m, v :: vs, cs, h, hc, hs => by
    obtain ⟨x, e⟩ := aval_long hs.1
    subst e
    exact ⟨trivial, acargs_of (ps := l) h hc hs.2⟩
  | .inr (.inr p) :: l, .inr (.inr (.inl q)) :: m, v :: vs, cs, h, hc, hs => by
    have e := aval_ref hs.1
    subst e
    unfold acargs at h
    cases c : Nat.beq q p with
    | false => rw [c] at h; cases h
    | true =>
      rw [c] at h
      exact ⟨Nat.eq_of_beq_eq_true c, acargs_of h hc hs.2⟩
def acpre (C : aC) : List ((Nat × Nat) × Int) → Option (List aL)
  | [] => some []
  | t :: l => match acl C t.1.1 (aco t.1.2), acpre C l with
    | some v, some r => some (asub (aco t.2) v :: r)
    | _, _ => none
theorem acpre_of {ρ : Nat → Int} {C : aC} {M : xM} (hC : acc ρ C M) : ∀ {ps : List ((Nat × Nat) × Int)} {cs : List aL}, acpre C ps = some cs → (∀ c ∈ cs, aev ρ c ≤ 0) → ∀ t ∈ ps, t.2 ≤ (M t.1.1 t.1.2).toInt
  | [], _, _, _, t, ht => by cases ht
  | p :: l, cs, h, hc, t, ht => by
    unfold acpre at h
    split at h
    · rename_i v r e1 e2
      cases h
      rcases List.mem_cons.mp ht with e | e
      · subst e
        have h1 := (hC _ (acl_of e1)).2
        dsimp only at h1
        rw [aev_co, Int.toNat_natCast] at h1
        have h2 := hc _ (List.mem_cons_self ..)
        rw [aev_sub, aev_co] at h2
        omega
      · exact acpre_of hC e2 (fun c hcc => hc c (List.mem_cons_of_mem _ hcc)) t e
    · cases h
def afind : List aCt → Nat → List aV → aKn → Option (Option (aCt × aKn))
  | [], _, _, _ => none
  | c :: l, z, as, K => bif Nat.beq c.1 z then (match acargs c.2.1 as, acpre K.2.2.2.1 c.2.2.1 with
    | some cs, some ps => (match aneed K (cs ++ ps) with
      | some (some K1) => some (some (c, K1))
      | some none => some none
      | none => afind l z as K)
    | _, _ => afind l z as K) else afind l z as K
def awsub (w' w : aW) : Bool := w'.1.all (fun p => w.1.any (Nat.beq p)) && w'.2.all (fun t => aWin w t.1 t.2)
theorem awsub_of {w' w : aW} {p i : Nat} (h : awsub w' w = true) (e : aWin w p i = false) : aWin w' p i = false := by
  unfold awsub at h
  rw [Bool.and_eq_true] at h
  cases c : aWin w' p i with
  | false => rfl
  | true =>
    unfold aWin at c
    rw [Bool.or_eq_true] at c
    rcases c with c | c
    · obtain ⟨q, hq, ec⟩ := List.any_eq_true.mp c
      have := List.all_eq_true.mp h.1 q hq
      rw [← Nat.eq_of_beq_eq_true ec] at this
      unfold aWin at e
      rw [this] at e
      cases e
    · obtain ⟨t, ht, ec⟩ := List.any_eq_true.mp c
      have := List.all_eq_true.mp h.2 t ht
      rw [Bool.and_eq_true] at ec
      rw [← Nat.eq_of_beq_eq_true ec.1, ← Nat.eq_of_beq_eq_true ec.2, e] at this
      cases this
def awp (w : aW) (p : Nat) : Bool := w.1.any (Nat.beq p) || w.2.any (fun t => Nat.beq p t.1)
theorem awp_of {w : aW} {p i : Nat} (h : awp w p = false) : aWin w p i = false := by
  unfold awp at h
  rw [Bool.or_eq_false_iff] at h
  unfold aWin
  rw [h.1, Bool.false_or]
  have h2 := List.any_eq_false.mp h.2
  rw [List.any_eq_false]
  exact fun t ht => by rw [Bool.and_eq_true]; exact fun z => h2 t ht z.1
def akc (w : aW) (q : (Nat × aL) × aL) : Bool := !(w.1.any (Nat.beq q.1.1)) && w.2.all (fun t => !(Nat.beq q.1.1 t.1) || adf q.1.2 (aco t.2))
theorem akc_of {ρ : Nat → Int} {w : aW} {q : (Nat × aL) × aL} (h : akc w q = true) (hn : 0 ≤ aev ρ q.1.2) : aWin w q.1.1 (aev ρ q.1.2).toNat = false := by
  unfold akc at h
  rw [Bool.and_eq_true, Bool.not_eq_true'] at h
  unfold aWin
  rw [h.1, Bool.false_or, List.any_eq_false]
  intro t ht
  have := List.all_eq_true.mp h.2 t ht
  rw [Bool.or_eq_true] at this
  rw [Bool.and_eq_true]
  intro z
  rcases this with e | e
  · rw [z.1] at e
    cases e
  · have e2 := Nat.eq_of_beq_eq_true z.2
    refine adf_of (ρ := ρ) e ?_
    rw [aev_co]
    omega
def ahavK (w' : aW) (K : aKn) : aKn := (K.1, K.2.1, K.2.2.1, K.2.2.2.1.filter (akc w'), K.2.2.2.2.1, K.2.2.2.2.2.1, [])
def ahav (prs : List (Nat × Nat)) (w : aW) (c : aCt) (K : aKn) : Option (Option aL × aKn) := bif anil K.2.2.2.2.2.2 && awsub c.2.2.2.2 w && prs.all (fun pr => !(awp c.2.2.2.2 pr.1) && !(awp c.2.2.2.2 pr.2)) then (match c.2.2.2.1 with
  | none => some (none, ahavK c.2.2.2.2 K)
  | some q => some (some (afr (ahavK c.2.2.2.2 K) q).1, (afr (ahavK c.2.2.2.2 K) q).2)) else none
def apv (o : Option aL) (sk : List aV) : List aV := match o with
  | none => sk
  | some l => .inl l :: sk
def aretok (res : Option (Int × Int)) (r : Option aL) (K : aKn) : Bool := anil K.2.2.2.2.2.2 && (match res, r with
  | none, none => true
  | some q, some v => abt K v q
  | _, _ => false)
def arun (prs : List (Nat × Nat)) (cts : List aCt) (w : aW) (cuts : List aCut) (ms : Option (List aL)) (res : Option (Int × Int)) : Nat → List aFr → aKn → Bool
  | 0, _, _ => false
  | n + 1, fr, K => match fr with
    | [] => false
    | f :: fs => cuts.any (fun c => akey c.1 (f :: fs) && acut1 ms c (f :: fs) K) || (match xI f.1 f.2.1 with
      | none => false
      | some e => match aca e f.2.2.2 with
        | some (z, as, rest) => bif Nat.ble (aargs as).length (xm z).2.2.1 then (match afind cts z as K with
          | some none => true
          | some (some (c, K1)) => (match ahav prs w c K1 with
            | none => false
            | some (r, K2) => arun prs cts w cuts ms res n ((f.1, f.2.1 + 3, f.2.2.1, apv r rest) :: fs) K2)
          | none => arun prs cts w cuts ms res n ((z, 0, axent z as, []) :: (f.1, f.2.1 + 3, f.2.2.1, rest) :: fs) K) else false
        | none => (match aret f.1 e f.2.2.2 K with
          | some r => (match fs with
            | [] => aretok res r K
            | g :: gs => arun prs cts w cuts ms res n ((g.1, g.2.1, g.2.2.1, apv r g.2.2.2) :: gs) K)
          | none => (match aex prs w e f.2.1 f.2.2.1 f.2.2.2 K with
            | none => false
            | some l => l.all (fun t => arun prs cts w cuts ms res n ((f.1, t.1, t.2.1, t.2.2.1) :: fs) t.2.2.2))))
