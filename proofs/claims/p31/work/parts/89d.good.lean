/-! BY HAND: the reference's isGood: the chain above goes down -/
def c159 : aCutG := ([(159, 4, [some (.inr (.inr (.inl 56))), none, some (.inl (aid 2)), some (.inl (aid 1))], [])], (3, [(0, (0, 2560)), (1, (-1, 23)), (2, (0, 1))], [], [], [], [], []))
def c159' : aCutG := ([(159, 4, [some (.inr (.inr (.inl 56))), none, some (.inl (aid 4)), some (.inl (aid 3))], [])], (5, [(0, (0, 2560)), (1, (0, 23)), (3, (-1, 23)), (4, (0, 1))], [], [((58, aid 1), aid 3)], [], [], []))
theorem r159a : arunG [] [] ([], []) [c159'] 3 (some (0, 1)) 100 c159.1 c159.2 = true := by decide +kernel
theorem r159b : (achF [(0, aid 0), (1, aid 3), (2, aid 4)] c159.1 c159'.1 && achKU [(0, aid 0), (1, aid 3), (2, aid 4)] c159.2 c159'.2) = true := by decide +kernel
theorem r159c : arunG [] [] ([], []) [c159] 1 (some (0, 1)) 100 [(159, 0, axent 159 (aen ct_159a.2.1 1 [(0, (0, 2560))]).1, [])] (aK0 ct_159a) = true := by decide +kernel
section A159
variable {xs : Nat → Int32} {L : Nat}
theorem l159 (hL : L ≤ 2560) {M : xM} (hM : aInv M) (h0 : 1 ≤ (M 56 0).toInt) : ∀ (n : Nat) (ρ : Nat → Int) (cfr : List cFr), (ρ 1 + 1).toNat = n → aHS xs L [] M c159.2 ρ c159.1 cfr → aGl xs L (aPost (some (0, 1)) ([], []) M) M cfr := by
  intro n
  induction n using Nat.strongRecOn with
  | _ n ih =>
    intro ρ cfr hn hS
    refine arunG_of (ρ0 := ρ) (g := 3) (cuts := [c159']) prs0 hL allc0 (fun r h => h) ?_ 100 c159.1 c159.2 ρ M cfr r159a hS hM (aUnw.refl _ M) (Nat.le_refl 3) (agr_refl _ _)
    intro c hc ρ' M' cfr' hS' hM' hU hag
    have ec : c = c159' := List.mem_singleton.mp hc
    subst ec
    have eM : M' = M := aUnw_nil hU
    subst eM
    obtain ⟨ρc, hSc, hρc⟩ := aconv [(0, aid 0), (1, aid 3), (2, aid 4)] r159b hS'
    have hk := (hS' ρ' (agr_refl _ _)).1
    have hb := hk.2.2.1 (1, (0, 23)) (by decide)
    have hc3 := hk.2.2.2.2.1 ((58, aid 1), aid 3) (List.mem_cons_self ..)
    have e1 : ρ' 1 = ρ 1 := hag 1 (by decide)
    dsimp only at hb hc3
    rw [aev_id, aev_id] at hc3
    have hlt : ρ' 3 < ρ' 1 := by
      rw [← hc3.2]
      by_cases hz : ρ' 1 = 0
      · rw [hz]
        exact hM.2.2.2.2.1 h0
      · have := hM.2.2.2.1 (ρ' 1).toNat (by omega)
        omega
    have ec1 : ρc 1 = ρ' 3 := (hρc 1 (aid 3) rfl).trans aev_id
    exact ih (ρc 1 + 1).toNat (by omega) ρc cfr' rfl hSc
theorem h159a (hL : L ≤ 2560) : aCon xs L ct_159a := by
  intro M as hM hRk hpv hpre
  have h0 : 1 ≤ (M 56 0).toInt := hpre ((56, 0), 1) (List.mem_cons_self ..)
  obtain ⟨ρ2, hS⟩ := aentry (xs := xs) (c := ct_159a) hL hRk hpv
  refine arunG_of (ρ0 := ρ2) (g := 1) (cuts := [c159]) (res := some (0, 1)) (w := ([], [])) (M0 := M) prs0 hL allc0 (fun r h => h) ?_ 100 _ _ ρ2 M _ r159c hS hM (aUnw.refl _ M) (by decide) (agr_refl _ _)
  intro c hc ρ' M' cfr' hS' hM' hU hag
  have ec : c = c159 := List.mem_singleton.mp hc
  subst ec
  have eM : M' = M := aUnw_nil hU
  subst eM
  exact l159 hL hM h0 _ ρ' cfr' rfl hS'
theorem h159b (hL : L ≤ 2560) : aCon xs L ct_159b := by
  intro M as hM hRk hpv hpre
  have h0 : 1 ≤ (M 56 6).toInt := hpre ((56, 6), 1) (List.mem_cons_self ..)
  exact h159a hL M as hM hRk hpv (fun t ht => by
    have : t = ((56, 0), 1) := List.mem_singleton.mp ht
    subst this
    exact hM.2.2.2.2.2.1 h0)
end A159
