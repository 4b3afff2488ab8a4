/-! BY HAND: frames of the invariant; keep with forgetOldest -/
section AFM
variable {xs : Nat → Int32} {L : Nat} {M M' : xM}
theorem aX_fr (h : aX M) (e : ∀ p i, (aPrA p || aPrF p i) = true → M' p i = M p i) : aX M' := by
  obtain ⟨h1, h2, h3, h4, h5, h6, h7⟩ := h
  refine ⟨aLk_ne h1 (fun i => e 13 i rfl) (fun i => e 14 i rfl), aLk_ne h2 (fun i => e 68 i rfl) (fun i => e 69 i rfl), fun i hi => ?_, fun h => ?_, fun h => ?_, fun i => ?_, ?_⟩
  · rw [e 58 i rfl]; exact h3 i hi
  · rw [e 58 0 rfl]; rw [e 56 0 rfl] at h; exact h4 h
  · rw [e 56 0 rfl]; rw [e 56 6 rfl] at h; exact h5 h
  · rw [e 80 i rfl, e 81 i rfl]; exact h6 i
  · rw [e 56 26 rfl, e 56 27 rfl]; exact h7
theorem aIvOk_fr (h : aIvOk M) (e : ∀ p i, M' p i = M p i ∨ ((∀ q, aIvA p = some q → q.1 ≤ (M' p i).toInt ∧ (M' p i).toInt ≤ q.2) ∧ (∀ q, aIvF p i = some q → q.1 ≤ (M' p i).toInt ∧ (M' p i).toInt ≤ q.2))) : aIvOk M' := by
  refine ⟨fun p q hq i => ?_, fun p b q hq => ?_⟩
  · rcases e p i with z | z
    · rw [z]; exact h.1 p q hq i
    · exact z.1 q hq
  · rcases e p b with z | z
    · rw [z]; exact h.2 p b q hq
    · exact z.2 q hq
theorem aRk_fr (h : aRk M) (e : ∀ p i, arwp p = true → M' p i = M p i) : aRk M' := by
  intro j r hj i
  have hm := List.mem_of_getElem? hj
  have h1 : arwp r.1 = true := List.any_eq_true.mpr ⟨r, hm, by rw [Nat.beq_refl]; rfl⟩
  have h2 : arwp r.2.2.1 = true := List.any_eq_true.mpr ⟨r, hm, by rw [Nat.beq_refl, Bool.or_true]⟩
  have := h j r hj i
  unfold acnd1 at this ⊢
  rw [e _ _ h1, e _ _ h2]
  exact this
/-- another memory, with no cells known -/
theorem aHS_mem {K : aKn} {ρ : Nat → Int} {fr : List aFr} {cfr : List cFr} (hS : aHS xs L [] M K ρ fr cfr) (hR : aRk M') {C : aC} (hC : ∀ ρ', agr K.1 ρ ρ' → acc ρ' C M') : aHS xs L [] M' (K.1, K.2.1, K.2.2.1, C, K.2.2.2.2) ρ fr cfr := by
  intro ρ' h
  obtain ⟨⟨k1, k2, k3, k4, k5, k6, k7, k8⟩, kf⟩ := hS ρ' h
  exact ⟨⟨k1, k2, k3, k4, hC ρ' h, k6, fun j pr hj => (by cases hj), fun j r hj i => Or.inl (hR j r hj i)⟩, kf⟩
end AFM
def fgR (f : Nat → Int32) : Nat → Int32 := va_cpy f f 1 0 39
def fgM (M : xM) : xM := xup (va_up (va_up (va_up M 33 (fgR (M 33))) 34 (fgR (M 34))) 35 (fgR (M 35))) 32 3 (M 32 3 - 1)
section AFG
variable {xs : Nat → Int32} {L : Nat} {M : xM}
theorem fgM_33 (i : Nat) : fgM M 33 i = fgR (M 33) i := rfl
theorem fgM_34 (i : Nat) : fgM M 34 i = fgR (M 34) i := rfl
theorem fgM_n : fgM M 32 3 = M 32 3 - 1 := rfl
theorem fgM_o {p i : Nat} (h : p ≠ 33) (h' : p ≠ 34) (h'' : p ≠ 35) (h3 : ¬ (p = 32 ∧ i = 3)) : fgM M p i = M p i := by
  unfold fgM
  have h3 : p ≠ 32 ∨ i ≠ 3 := by
    by_cases e : p = 32
    · exact Or.inr (fun z => h3 ⟨e, z⟩)
    · exact Or.inl e
  rw [xup_ne h3, va_up_ne _ _ h'', va_up_ne _ _ h', va_up_ne _ _ h]
theorem fgR_i (f : Nat → Int32) (i : Nat) : ∃ j, fgR f i = f j ∧ (i < 39 → j = i + 1) ∧ (39 ≤ i → j = i) := by
  unfold fgR va_cpy
  by_cases h : i < 39
  · exact ⟨i + 1, by rw [if_pos ⟨Nat.zero_le i, by omega⟩, Nat.sub_zero, Nat.add_comm], fun _ => rfl, fun h' => by omega⟩
  · exact ⟨i, by rw [if_neg (by omega)], fun h' => absurd h' h, fun _ => rfl⟩
set_option maxRecDepth 100000 in
theorem p57 {Q : xZ → Prop} (k : Q (none, 102, xsh0, fgM M)) : PL xs L 57 (0, xent 57 [.ref 32], [], 102, xsh0, M) Q := by
  refine PL.go (k := 30) (s' := (55, [some (.ref 32)], [], 102, xsh0, fgM M)) rfl ?_
  exact PL.ret (v := none) rfl k
theorem fg_inv (hM : aInv M) (hn : (M 32 3).toInt = 40) : (fgM M 32 3).toInt = 39 := by
  rw [fgM_n]
  have : M 32 3 = 40 := Int32.toInt_inj.mp hn
  rw [this]
  decide
theorem fg_ok (hM : aInv M) (hR : aRk M) (hn : (M 32 3).toInt = 40) : aInv (fgM M) ∧ aRk (fgM M) ∧ aUnw ([33, 34, 35], [(32, 3)]) M (fgM M) := by
  have h39 := fg_inv hM hn
  have hout : ∀ p i, aWin ([33, 34, 35], [(32, 3)]) p i = false → fgM M p i = M p i := by
    intro p i h
    refine fgM_o (fun e => ?_) (fun e => ?_) (fun e => ?_) (fun e => ?_)
    · rw [e] at h; cases h
    · rw [e] at h; cases h
    · rw [e] at h; cases h
    · rw [e.1, e.2] at h; cases h
  refine ⟨⟨aIvOk_fr hM.1 (fun p i => ?_), aX_fr hM.2 (fun p i h => ?_)⟩, ?_, hout⟩
  · by_cases h : aWin ([33, 34, 35], [(32, 3)]) p i = true
    · right
      have hc : p = 33 ∨ p = 34 ∨ p = 35 ∨ (p = 32 ∧ i = 3) := by
        by_cases e1 : p = 33
        · exact Or.inl e1
        · by_cases e2 : p = 34
          · exact Or.inr (Or.inl e2)
          · by_cases e3 : p = 35
            · exact Or.inr (Or.inr (Or.inl e3))
            · refine Or.inr (Or.inr (Or.inr ?_))
              unfold aWin at h
              simp only [List.any_cons, List.any_nil, Bool.or_false, Bool.or_eq_true, Bool.and_eq_true, Nat.beq_eq] at h
              rcases h with (h | h | h) | h
              · exact absurd h e1
              · exact absurd h e2
              · exact absurd h e3
              · exact h
      rcases hc with e | e | e | ⟨e, e'⟩
      · subst e
        exact ⟨fun q hq => (by cases hq), fun q hq => by rw [aNoF_of (p := 33) (by decide)] at hq; cases hq⟩
      · subst e
        refine ⟨fun q hq => ?_, fun q hq => by rw [aNoF_of (p := 34) (by decide)] at hq; cases hq⟩
        obtain ⟨j, ej, -⟩ := fgR_i (M 34) i
        rw [fgM_34, ej]
        exact hM.1.1 34 q hq j
      · subst e
        exact ⟨fun q hq => (by cases hq), fun q hq => by rw [aNoF_of (p := 35) (by decide)] at hq; cases hq⟩
      · subst e; subst e'
        refine ⟨fun q hq => (by cases hq), fun q hq => ?_⟩
        have : q = (0, 40) := by
          have h2 : aIvF 32 3 = some (0, 40) := by decide
          rw [h2] at hq
          cases hq
          rfl
        subst this
        rw [h39]
        decide
    · exact Or.inl (hout p i (by cases c : aWin ([33, 34, 35], [(32, 3)]) p i with
        | false => rfl
        | true => exact absurd c h))
  · refine fgM_o (fun e => ?_) (fun e => ?_) (fun e => ?_) (fun e => ?_)
    · rw [e] at h; cases h
    · rw [e] at h; cases h
    · rw [e] at h; cases h
    · rw [e.1, e.2] at h; cases h
  · intro j r hj i
    have hm := List.mem_of_getElem? hj
    by_cases hr : r.1 = 33
    · have er : r = (33, (0, 0), 34, 0, (0, 7)) := by
        have : ∀ r ∈ aRws, Nat.beq r.1 33 = true → r = (33, (0, 0), 34, 0, (0, 7)) := by decide
        exact this r hm (by rw [hr]; rfl)
      subst er
      intro h1 h2
      have h1 : 0 ≤ (fgM M 33 i).toInt := h1
      have h2 : (fgM M 33 i).toInt ≤ 0 := h2
      show 0 ≤ arwv 0 (fgM M 34 i) ∧ arwv 0 (fgM M 34 i) ≤ 7
      obtain ⟨j1, e1, f1, g1⟩ := fgR_i (M 33) i
      obtain ⟨j2, e2, f2, g2⟩ := fgR_i (M 34) i
      have ejj : j1 = j2 := by
        by_cases hi : i < 39
        · rw [f1 hi, f2 hi]
        · rw [g1 (by omega), g2 (by omega)]
      subst ejj
      rw [fgM_33, e1] at h1 h2
      rw [fgM_34, e2]
      exact hR j _ hj j1 h1 h2
    · have ho : r.1 ≠ 33 ∧ r.1 ≠ 34 ∧ r.1 ≠ 35 ∧ r.1 ≠ 32 ∧ r.2.2.1 ≠ 33 ∧ r.2.2.1 ≠ 34 ∧ r.2.2.1 ≠ 35 ∧ r.2.2.1 ≠ 32 := by
        have : ∀ r ∈ aRws, r.1 ≠ 33 → r.1 ≠ 33 ∧ r.1 ≠ 34 ∧ r.1 ≠ 35 ∧ r.1 ≠ 32 ∧ r.2.2.1 ≠ 33 ∧ r.2.2.1 ≠ 34 ∧ r.2.2.1 ≠ 35 ∧ r.2.2.1 ≠ 32 := by decide
        exact this r hm hr
      have := hR j r hj i
      unfold acnd1 at this ⊢
      rw [fgM_o ho.1 ho.2.1 ho.2.2.1 (fun z => ho.2.2.2.1 z.1), fgM_o ho.2.2.2.2.1 ho.2.2.2.2.2.1 ho.2.2.2.2.2.2.1 (fun z => ho.2.2.2.2.2.2.2 z.1)]
      exact this
def w56 : aW := ([33, 34, 35], [(32, 3)])
def f56 (c : aCt) (pc : Nat) : List aFr := [(56, pc, axent 56 (aen c.2.1 1 [(0, (0, 2560))]).1, [])]
def c56 (c : aCt) : aCutG := (f56 c 9, ((aK0 c).1 + 1, ((aK0 c).1, (40, 40)) :: (aK0 c).2.1, [], [((32, aco 3), aid (aK0 c).1)], [], [], []))
def q56 (c : aCt) : aKn := ((aK0 c).1 + 1, ((aK0 c).1, (40, 40)) :: (aK0 c).2.1, [], [((32, aco 3), aco 39)], [], [], [])
def s56 (c : aCt) : Bool := arunG [] [] w56 [c56 c] 1 none 100 (f56 c 0) (aK0 c) && arunG [] [] w56 [] 1 none 100 (f56 c 13) (q56 c)
set_option maxRecDepth 100000 in
theorem h56 (hL : L ≤ 2560) {l : List aPt} {r : List ((Nat × Nat) × Int)} (hs : s56 (56, .inr (.inr 32) :: l, r, none, w56) = true) : aCon xs L (56, .inr (.inr 32) :: l, r, none, w56) := by
  unfold s56 at hs
  rw [Bool.and_eq_true] at hs
  intro M as hM hRk hpv hpre
  obtain ⟨ρ2, hS⟩ := aentry (xs := xs) (c := (56, .inr (.inr 32) :: l, r, none, w56)) hL hRk hpv
  refine arunG_of (ρ0 := ρ2) (g := 1) (cuts := [c56 (56, .inr (.inr 32) :: l, r, none, w56)]) (res := none) (w := w56) (M0 := M) prs0 hL allc0 (fun r h => h) ?_ 100 _ _ ρ2 M _ hs.1 hS hM (aUnw.refl _ M) (hS ρ2 (agr_refl _ _)).1.1 (agr_refl _ _)
  intro c' hc' ρ' M' cfr' hS' hM' hU hag
  have ec := List.mem_singleton.mp hc'
  subst ec
  have hk := hS' ρ' (agr_refl _ _)
  obtain ⟨plc, skc, m, e, hl, hst, hn⟩ := afrs_cons hk.2
  have e2 := astkN hst
  have e3 := afrs_nil hn
  subst e2; subst e3
  have hl : aloc ρ' (some (.inr (.inr (.inl 32))) :: _) plc := hl
  obtain ⟨v, pl, e4, h4, h5⟩ := alocC hl
  have e5 := alo1R h4
  subst e5; subst e4
  have hc3 := hk.1.2.2.2.2.1 ((32, aco 3), aid _) (List.mem_cons_self ..)
  have hb := hk.1.2.2.1 (_, (40, 40)) (List.mem_cons_self ..)
  dsimp only at hc3 hb
  rw [aev_co, aev_id] at hc3
  have h40 : (M' 32 3).toInt = 40 := by
    have : (M' 32 3).toInt = ρ' _ := hc3.2
    omega
  have hR' := hS'.rk rfl
  obtain ⟨g1, g2, g3⟩ := fg_ok hM' hR' h40
  have h39 := fg_inv hM' h40
  have hS2 : aHS xs L [] (fgM M') (q56 (56, .inr (.inr 32) :: l, r, none, w56)) ρ' (f56 (56, .inr (.inr 32) :: l, r, none, w56) 13) [(56, 13, some (.ref 32) :: pl, [])] := aHS_mem (K := (c56 (56, .inr (.inr 32) :: l, r, none, w56)).2) (fr := f56 (56, .inr (.inr 32) :: l, r, none, w56) 13) (cfr := [(56, 13, some (.ref 32) :: pl, [])]) (fun ρ'' h => ⟨(hS' ρ'' h).1, ⟨rfl, rfl, by
    have := (hS' ρ'' h).2
    rw [e] at this
    exact this.1.2.2.1, trivial⟩, trivial⟩) g2 (fun ρ'' _ q hq => by
    have := List.mem_singleton.mp hq
    subst this
    rw [aev_co, aev_co]
    exact ⟨by decide, h39⟩)
  have hrun := arunG_of (ρ0 := ρ') (g := 1) (cuts := []) (res := none) (w := w56) (M0 := M) (Q := aPost none w56 M) prs0 hL allc0 (fun r h => h) (fun c hc => by cases hc) 100 _ _ ρ' (fgM M') _ hs.2 hS2 g1 (hU.trans g3) (hS2 ρ' (agr_refl _ _)).1.1 (agr_refl _ _)
  rw [e]
  show PL xs L 56 (9, some (.ref 32) :: pl, [], 102, xsh0, M') _
  refine PL.go (k := 1) (s' := (10, some (.ref 32) :: pl, [.ref 32], 102, xsh0, M')) rfl ?_
  refine PL.callL (z := 57) (as := [.ref 32]) (pc := 13) (pl := some (.ref 32) :: pl) (st := []) (nz := 102) (sh := xsh0) (M := M') rfl (by decide) ?_
  exact p57 ⟨rfl, hrun⟩
theorem s56_1 : s56 ct_56 = true := by decide +kernel
theorem s56_2 : s56 ct_56_1 = true := by decide +kernel
theorem s56_3 : s56 ct_56_2 = true := by decide +kernel
theorem h56_1 (hL : L ≤ 2560) : aCon xs L ct_56 := h56 hL s56_1
theorem h56_2 (hL : L ≤ 2560) : aCon xs L ct_56_1 := h56 hL s56_2
theorem h56_3 (hL : L ≤ 2560) : aCon xs L ct_56_2 := h56 hL s56_3
end AFG
