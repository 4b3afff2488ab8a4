/-! BY HAND: turned, of class and reference, leaves what STATES are told as it was -/
def w6n : aW := ([39, 40, 42, 46, 55], [(36, 6)])
def ct_6n : aCt := (6, [.inr (.inr 36), .inr (.inr 5), .inr (.inr 17), .inr (.inr 55)], [], some (-1, 95), w6n)
def f6 (pc : Nat) (l5 l6 l7 l8 : Option aV) (st : List aV) : aFr := (6, pc, [R_ 36, R_ 5, R_ 17, R_ 55, vi 1, l5, l6, l7, l8], st)
def tH (l : Option aV) (E : aE) (n : Nat) : aCutG := ([f6 12 l none none none []], (n, e0 :: (1, (-1, 7)) :: E, [], [], [], [], []))
def tX1 : aCutG := ([(142, 7, [R_ 43, vi 4, vi 5, vi 6], [.inl (aid 5), .inl (aid 4), r_ 43]), f6 52 (vi 2) (vi 4) none none []], (7, [e0, (1, (-1, 7)), (2, (0, 63)), (4, (0, 7)), (5, (0, 7)), (6, (-1, 7))], [], [((43, aid 4), aid 6)], [], [], []))
def tX2 : aCutG := ([f6 71 (vi 2) (vi 4) (vi 6) (vi 7) [.inl (aid 6), .inl (aid 4), r_ 43]], (8, [e0, (1, (-1, 7)), (2, (0, 63)), (4, (0, 7)), (6, (-1, 7)), (7, (-1, 7))], [], [], [], [], []))
theorem t6_0 : arunG [] [ct_3] w6n [tH (some (.inl (aco 0))) [] 2] 1 (some (1, 0)) 100 [(6, 0, axent 6 (aen ct_6n.2.1 1 [(0, (0, 2560))]).1, [])] (aK0 ct_6n) = true := by decide +kernel
theorem t6_1 : arunG [] [ct_3] w6n [tX1, tH (vk 1 2) [(2, (0, 63))] 3] 3 (some (-1, 95)) 100 (tH (vi 2) [(2, (0, 64))] 3).1 (tH (vi 2) [(2, (0, 64))] 3).2 = true := by decide +kernel
theorem t6_2 : arunG [] [ct_3] w6n [tX2] 7 (some (1, 0)) 100 [(142, 8, [R_ 43, vi 4, vi 5, vi 6], []), f6 52 (vi 2) (vi 4) none none []] (kcl tX1.2) = true := by decide +kernel
theorem t6_3 : arunG [] [ct_3] w6n [tH (vk 1 2) [(2, (0, 63))] 3] 3 (some (-1, 95)) 100 [f6 72 (vi 2) (vi 4) (vi 6) (vi 7) []] (kcl tX2.2) = true := by decide +kernel
theorem t6_4 : (achF [(0, aid 0), (1, aid 1), (2, aco 0)] (tH (vi 2) [(2, (0, 64))] 3).1 (tH (some (.inl (aco 0))) [] 2).1 && achKU [(0, aid 0), (1, aid 1), (2, aco 0)] (tH (vi 2) [(2, (0, 64))] 3).2 (tH (some (.inl (aco 0))) [] 2).2) = true := by decide +kernel
theorem t6_5 : (achF [(0, aid 0), (1, aid 1), (2, (1, [(2, 1)]))] (tH (vi 2) [(2, (0, 64))] 3).1 (tH (vk 1 2) [(2, (0, 63))] 3).1 && achKU [(0, aid 0), (1, aid 1), (2, (1, [(2, 1)]))] (tH (vi 2) [(2, (0, 64))] 3).2 (tH (vk 1 2) [(2, (0, 63))] 3).2) = true := by decide +kernel
section ATN
variable {xs : Nat → Int32} {L : Nat} {M00 : xM}
/-- a cell told otherwise, then told again as before -/
theorem unw_back {w : aW} {p j : Nat} {M1 M2 M3 : xM} {x y : Int32} (h1 : aUnw w M1 M2) (hw : ∀ i, aWin w p i = false) (h2 : aUnw w (xup M2 p j x) M3) (hy : y = M2 p j) : aUnw w M1 (xup M3 p j y) := by
  intro q i h
  by_cases hq : q = p ∧ i = j
  · obtain ⟨e1, e2⟩ := hq
    subst e1; subst e2
    rw [xup_self, hy]
    exact h1 q i h
  · have hne : q ≠ p ∨ i ≠ j := by
      by_cases e : q = p
      · exact Or.inr (fun z => hq ⟨e, z⟩)
      · exact Or.inl e
    rw [xup_ne hne, h2 q i h, xup_ne hne]
    exact h1 q i h
theorem k3 (hL : L ≤ 2560) : aCon xs L ct_3 := co_ct_3 hL (aHand_of hL)
theorem l6 (hL : L ≤ 2560) : ∀ (n : Nat) (M : xM) (ρ : Nat → Int) (cfr : List cFr), (64 - ρ 2).toNat = n → aUnw w6n M00 M → aInv M → aHS xs L [] M (tH (vi 2) [(2, (0, 64))] 3).2 ρ (tH (vi 2) [(2, (0, 64))] 3).1 cfr → aGl xs L (aPost (some (-1, 95)) w6n M00) M cfr := by
  intro n
  induction n using Nat.strongRecOn with
  | _ n ih =>
    intro M ρ cfr hn hU hM hS
    have hct : ∀ c ∈ [ct_3], aCon xs L c := allc (k3 hL) allc_nil
    have next : ∀ (M1 : xM) (ρ1 : Nat → Int) (cfr1 : List cFr), ρ1 2 = ρ 2 → aUnw w6n M00 M1 → aInv M1 → aHS xs L [] M1 (tH (vk 1 2) [(2, (0, 63))] 3).2 ρ1 (tH (vk 1 2) [(2, (0, 63))] 3).1 cfr1 → aGl xs L (aPost (some (-1, 95)) w6n M00) M1 cfr1 := by
      intro M1 ρ1 cfr1 e2 hU1 hM1 hS1
      have b2 := hS1.bd (t := (2, (0, 63))) (by decide)
      dsimp only at b2
      obtain ⟨ρc, hSc, hρc⟩ := aconv [(0, aid 0), (1, aid 1), (2, (1, [(2, 1)]))] t6_5 hS1
      have q2 : ρc 2 = 1 + ρ1 2 := (hρc 2 (1, [(2, 1)]) rfl).trans aev_s
      exact ih (64 - ρc 2).toNat (by omega) M1 ρc cfr1 rfl hU1 hM1 hSc
    refine arunG_of (ρ0 := ρ) (g := 3) (M0 := M00) (w := w6n) prs0 hL hct (fun r h => h) ?_ 100 _ _ ρ M cfr t6_1 hS hM hU (Nat.le_refl 3) (agr_refl _ _)
    intro c hc ρ' M' cfr' hS' hM' hU' hag
    have e2 : ρ' 2 = ρ 2 := hag 2 (by decide)
    rcases List.mem_cons.mp hc with ec | hc
    · subst ec
      have b4 := hS'.bd (t := (4, (0, 7))) (by decide)
      have b5 := hS'.bd (t := (5, (0, 7))) (by decide)
      have c6 := hS'.ce (q := ((43, aid 4), aid 6)) (List.mem_cons_self ..)
      dsimp only at b4 b5 c6
      rw [aev_id, aev_id] at c6
      refine store_i (p := 43) (n := 8) rfl rfl hS' (by rw [aev_id]; omega) (by rw [aev_id]; omega) (fun x cfr2 hx hh => ?_)
      rw [aev_id] at hx ⊢
      obtain ⟨i1, i2, i3⟩ := st_ok (p := 43) (q := (-1, 7)) hM' (hS'.rk rfl) rfl rfl (by decide) (by decide) (by decide) (ρ' 4).toNat (x := x) (by dsimp only; omega)
      refine arunG_of (ρ0 := ρ') (g := 7) (M0 := xup M' 43 (ρ' 4).toNat x) (w := w6n) prs0 hL hct (fun r h => aPost_no h) ?_ 100 _ _ ρ' _ cfr2 t6_2 (hh _ i2) i1 (aUnw.refl _ _) (by decide) (agr_refl _ _)
      intro c hc ρ3 M3 cfr3 hS3 hM3 hU3 hag3
      have ec := List.mem_singleton.mp hc
      subst ec
      have u2 : ρ3 2 = ρ' 2 := hag3 2 (by decide)
      have u4 : ρ3 4 = ρ' 4 := hag3 4 (by decide)
      have u6 : ρ3 6 = ρ' 6 := hag3 6 (by decide)
      have b6 := hS3.bd (t := (6, (-1, 7))) (by decide)
      dsimp only at b6
      refine store_i (p := 43) (n := 8) rfl rfl hS3 (by rw [aev_id]; omega) (by rw [aev_id]; omega) (fun y cfr4 hy hh4 => ?_)
      rw [aev_id] at hy ⊢
      obtain ⟨j1, j2, j3⟩ := st_ok (p := 43) (q := (-1, 7)) hM3 (hS3.rk rfl) rfl rfl (by decide) (by decide) (by decide) (ρ3 4).toNat (x := y) (by dsimp only; omega)
      have hy0 : y = M' 43 (ρ' 4).toNat := Int32.toInt_inj.mp (by rw [hy, u6, c6.2])
      have hUb : aUnw w6n M00 (xup M3 43 (ρ3 4).toNat y) := by
        rw [u4]
        exact unw_back hU' (fun i => rfl) hU3 hy0
      refine arunG_of (ρ0 := ρ3) (g := 3) (M0 := M00) (w := w6n) prs0 hL hct (fun r h => h) ?_ 100 _ _ ρ3 _ cfr4 t6_3 (hh4 _ j2) j1 hUb (by decide) (agr_refl _ _)
      intro c hc ρ5 M5 cfr5 hS5 hM5 hU5 hag5
      have ec := List.mem_singleton.mp hc
      subst ec
      have v2 : ρ5 2 = ρ3 2 := hag5 2 (by decide)
      exact next M5 ρ5 cfr5 (by omega) hU5 hM5 hS5
    · have ec := List.mem_singleton.mp hc
      subst ec
      exact next M' ρ' cfr' e2 hU' hM' hS'
theorem h6n (hL : L ≤ 2560) : aCon xs L ct_6n := by
  intro M as hM hRk hpv hpre
  obtain ⟨ρ2, hS⟩ := aentry (xs := xs) (c := ct_6n) hL hRk hpv
  show aGl xs L (aPost (some (-1, 95)) w6n M) M [(6, 0, xent 6 as, [])]
  refine arunG_of (ρ0 := ρ2) (g := 1) (M0 := M) (w := w6n) prs0 hL (allc (k3 hL) allc_nil) (fun r h => aPost_no h) ?_ 100 _ _ ρ2 M _ t6_0 hS hM (aUnw.refl _ _) (by decide) (agr_refl _ _)
  intro c hc ρ' M' cfr' hS' hM' hU' hag
  have ec := List.mem_singleton.mp hc
  subst ec
  obtain ⟨ρc, hSc, hρc⟩ := aconv [(0, aid 0), (1, aid 1), (2, aco 0)] t6_4 hS'
  exact l6 hL _ M' ρc cfr' rfl hU' hM' hSc
end ATN
def ct_124n : aCt := (124, [.inr (.inr 0)], [], some (-1, 95), ([38, 39, 40, 41, 42, 46, 55], [(36, 6), (37, 5), (37, 6)]))
theorem ck_124n : ackc [ct_6n, ct_41, ct_78] ct_124n cu_ct_124 0 98 = true := by decide +kernel
theorem co_ct_124n {xs : Nat → Int32} {L : Nat} (hL : L ≤ 2560) : aCon xs L ct_124n := ackc_of hL (allc (h6n hL) (allc (co_ct_41 hL (aHand_of hL)) (allc (co_ct_78 hL (aHand_of hL)) allc_nil))) ck_124n
-- ---- the reference
def ct_204n : aCt := (204, [.inr (.inr 56)], [], some (-1, 95), w201)
def f204 (pc : Nat) (l2 l3 l4 l5 : Option aV) (st : List aV) : List aFr := [(204, pc, [R_ 56, vi 1, l2, l3, l4, l5], st)]
def uE : aE := [e0, (1, (-1, 7))]
def uO (l : Option aV) (E : aE) (n : Nat) : aCutG := (f204 7 l none none none [], (n, uE ++ E, [], [], [], [], []))
def uI0 : aCutG := (f204 23 (vi 2) (vi 3) (some (.inl (aco 0))) none [], (4, uE ++ [(2, (0, 7)), (3, (-1, 7))], [], [((90, aid 2), aid 3)], [], [], []))
def uI : aCutG := (f204 23 (vi 2) (vi 3) (vi 4) none [], (5, uE ++ [(2, (0, 7)), (3, (-1, 7)), (4, (0, 8))], [], [], [], [], []))
def uI1 : aCutG := (f204 23 (vi 2) (vi 3) (vk 1 4) none [], (5, uE ++ [(2, (0, 7)), (3, (-1, 7)), (4, (0, 7))], [], [], [], [], []))
def uX1 : aCutG := (f204 37 (vi 2) (vi 3) (vi 4) none [.inl (aid 4), .inl (aid 2), r_ 90], (5, uE ++ [(2, (0, 7)), (3, (-1, 7)), (4, (0, 7))], [], [], [], [], []))
def uX2 : aCutG := (f204 50 (vi 2) (vi 3) (vi 4) (vi 5) [.inl (aid 3), .inl (aid 2), r_ 90], (6, uE ++ [(2, (0, 7)), (3, (-1, 7)), (4, (0, 7)), (5, (-1, 7))], [], [], [], [], []))
theorem u204_0 : arunG [] [ct_201] w201 [uO (some (.inl (aco 0))) [] 2] 1 (some (1, 0)) 100 [(204, 0, axent 204 (aen ct_204n.2.1 1 [(0, (0, 2560))]).1, [])] (aK0 ct_204n) = true := by decide +kernel
theorem u204_1x : arunG [] [ct_201] ([], []) [uI0] 3 (some (-1, 95)) 100 (uO (vi 2) [(2, (0, 8))] 3).1 (uO (vi 2) [(2, (0, 8))] 3).2 = true := by decide +kernel
def uO5 : aCutG := (f204 7 (vk 1 2) none none none [], (5, uE ++ [(2, (0, 7))], [], [], [], [], []))
theorem u204_2x : arunG [] [ct_201] ([], []) [uX1, uO5] 5 (some (1, 0)) 100 uI.1 uI.2 = true := by decide +kernel
theorem u204_3 : arunG [] [ct_201] w201 [uX2] 5 (some (1, 0)) 100 (f204 38 (vi 2) (vi 3) (vi 4) none []) (kcl uX1.2) = true := by decide +kernel
theorem u204_4x : arunG [] [ct_201] ([], []) [uI1] 5 (some (-1, 95)) 100 (f204 51 (vi 2) (vi 3) (vi 4) (vi 5) []) (kcl uX2.2) = true := by decide +kernel
def sg0 : aSg := [(0, aid 0), (1, aid 1), (2, aco 0)]
def sg1 : aSg := [(0, aid 0), (1, aid 1), (2, (1, [(2, 1)]))]
def sgI : aSg := [(0, aid 0), (1, aid 1), (2, aid 2), (3, aid 3), (4, aco 0)]
def sgI1 : aSg := [(0, aid 0), (1, aid 1), (2, aid 2), (3, aid 3), (4, (1, [(4, 1)]))]
theorem u204_5 : (achF sg0 (uO (vi 2) [(2, (0, 8))] 3).1 (uO (some (.inl (aco 0))) [] 2).1 && achKU sg0 (uO (vi 2) [(2, (0, 8))] 3).2 (uO (some (.inl (aco 0))) [] 2).2) = true := by decide +kernel
theorem u204_6 : (achF sg1 (uO (vi 2) [(2, (0, 8))] 3).1 uO5.1 && achKU sg1 (uO (vi 2) [(2, (0, 8))] 3).2 uO5.2) = true := by decide +kernel
theorem u204_7 : (achF sgI uI.1 uI0.1 && achKU sgI uI.2 uI0.2) = true := by decide +kernel
theorem u204_8 : (achF sgI1 uI.1 uI1.1 && achKU sgI1 uI.2 uI1.2) = true := by decide +kernel
section AUN
variable {xs : Nat → Int32} {L : Nat} {M00 : xM}
theorem k201 (hL : L ≤ 2560) : ∀ c ∈ [ct_201], aCon xs L c := allc (h201 hL) allc_nil
theorem lI204 (hL : L ≤ 2560) {k : Nat} (ihO : ∀ (M : xM) (ρ : Nat → Int) (cfr : List cFr), (8 - ρ 2).toNat < k → aUnw w201 M00 M → aInv M → aHS xs L [] M (uO (vi 2) [(2, (0, 8))] 3).2 ρ (uO (vi 2) [(2, (0, 8))] 3).1 cfr → aGl xs L (aPost (some (-1, 95)) w201 M00) M cfr) : ∀ (n : Nat) (M : xM) (ρ : Nat → Int) (cfr : List cFr), (8 - ρ 4).toNat = n → (8 - ρ 2).toNat = k → (M 90 (ρ 2).toNat).toInt = ρ 3 → aUnw w201 M00 M → aInv M → aHS xs L [] M uI.2 ρ uI.1 cfr → aGl xs L (aPost (some (-1, 95)) w201 M00) M cfr := by
  intro n
  induction n using Nat.strongRecOn with
  | _ n ih =>
    intro M ρ cfr hn hk hwas hU hM hS
    have hR := hS.rk rfl
    refine arunG_of (ρ0 := ρ) (g := 5) (M0 := M) (w := ([], [])) prs0 hL (k201 hL) (fun r h => aPost_no h) ?_ 100 _ _ ρ M cfr u204_2x hS hM (aUnw.refl _ _) (Nat.le_refl 5) (agr_refl _ _)
    intro c hc ρ' M' cfr' hS' hM' hU' hag
    have eM := aUnw_nil hU'
    subst eM
    have e2 : ρ' 2 = ρ 2 := hag 2 (by decide)
    have e3 : ρ' 3 = ρ 3 := hag 3 (by decide)
    have e4 : ρ' 4 = ρ 4 := hag 4 (by decide)
    rcases List.mem_cons.mp hc with ec | hc
    · subst ec
      have b2 := hS'.bd (t := (2, (0, 7))) (by decide)
      have b4 := hS'.bd (t := (4, (0, 7))) (by decide)
      have b3 := hS'.bd (t := (3, (-1, 7))) (by decide)
      dsimp only at b2 b3 b4
      refine store_i (p := 90) (n := 8) rfl rfl hS' (by rw [aev_id]; omega) (by rw [aev_id]; omega) (fun x cfr2 hx hh => ?_)
      rw [aev_id] at hx ⊢
      obtain ⟨i1, i2, i3⟩ := st_ok (p := 90) (q := (-1, 7)) hM' hR rfl rfl (by decide) (by decide) (by decide) (ρ' 2).toNat (x := x) (by dsimp only; omega)
      refine arunG_of (ρ0 := ρ') (g := 5) (M0 := xup M' 90 (ρ' 2).toNat x) (w := w201) prs0 hL (k201 hL) (fun r h => aPost_no h) ?_ 100 _ _ ρ' _ cfr2 u204_3 (hh _ i2) i1 (aUnw.refl _ _) (by decide) (agr_refl _ _)
      intro c hc ρ3 M3 cfr3 hS3 hM3 hU3 hag3
      have ec := List.mem_singleton.mp hc
      subst ec
      have u2 : ρ3 2 = ρ' 2 := hag3 2 (by decide)
      have u3 : ρ3 3 = ρ' 3 := hag3 3 (by decide)
      have u4 : ρ3 4 = ρ' 4 := hag3 4 (by decide)
      refine store_i (p := 90) (n := 8) rfl rfl hS3 (by rw [aev_id]; omega) (by rw [aev_id]; omega) (fun y cfr4 hy hh4 => ?_)
      rw [aev_id] at hy ⊢
      obtain ⟨j1, j2, j3⟩ := st_ok (p := 90) (q := (-1, 7)) hM3 (hS3.rk rfl) rfl rfl (by decide) (by decide) (by decide) (ρ3 2).toNat (x := y) (by dsimp only; omega)
      have hy0 : y = M' 90 (ρ' 2).toNat := Int32.toInt_inj.mp (by rw [hy, e2, hwas]; omega)
      have hUb : aUnw w201 M00 (xup M3 90 (ρ3 2).toNat y) := by
        rw [u2]
        exact unw_back hU (fun i => rfl) hU3 hy0
      have hwb : (xup M3 90 (ρ3 2).toNat y 90 (ρ3 2).toNat).toInt = ρ3 3 := by rw [xup_self]; exact hy
      refine arunG_of (ρ0 := ρ3) (g := 5) (M0 := xup M3 90 (ρ3 2).toNat y) (w := ([], [])) prs0 hL (k201 hL) (fun r h => aPost_up (w := w201) (by decide) hUb h) ?_ 100 _ _ ρ3 _ cfr4 u204_4x (hh4 _ j2) j1 (aUnw.refl _ _) (by decide) (agr_refl _ _)
      intro c hc ρ5 M5 cfr5 hS5 hM5 hU5 hag5
      have ec := List.mem_singleton.mp hc
      subst ec
      have eM := aUnw_nil hU5
      subst eM
      have v2 : ρ5 2 = ρ3 2 := hag5 2 (by decide)
      have v3 : ρ5 3 = ρ3 3 := hag5 3 (by decide)
      have v4 : ρ5 4 = ρ3 4 := hag5 4 (by decide)
      obtain ⟨ρc, hSc, hρc⟩ := aconv sgI1 u204_8 hS5
      have q2 : ρc 2 = ρ5 2 := (hρc 2 (aid 2) rfl).trans aev_id
      have q3 : ρc 3 = ρ5 3 := (hρc 3 (aid 3) rfl).trans aev_id
      have q4 : ρc 4 = 1 + ρ5 4 := (hρc 4 (1, [(4, 1)]) rfl).trans aev_s
      refine ih (8 - ρc 4).toNat (by omega) _ ρc cfr5 rfl (by omega) ?_ hUb hM5 hSc
      rw [q2, v2, hwb]
      omega
    · have ec := List.mem_singleton.mp hc
      subst ec
      obtain ⟨ρc, hSc, hρc⟩ := aconv sg1 u204_6 hS'
      have b2 := hS'.bd (t := (2, (0, 7))) (by decide)
      dsimp only at b2
      have q2 : ρc 2 = 1 + ρ' 2 := (hρc 2 (1, [(2, 1)]) rfl).trans aev_s
      exact ihO M' ρc cfr' (by omega) hU hM' hSc
theorem lO204 (hL : L ≤ 2560) : ∀ (k : Nat) (M : xM) (ρ : Nat → Int) (cfr : List cFr), (8 - ρ 2).toNat = k → aUnw w201 M00 M → aInv M → aHS xs L [] M (uO (vi 2) [(2, (0, 8))] 3).2 ρ (uO (vi 2) [(2, (0, 8))] 3).1 cfr → aGl xs L (aPost (some (-1, 95)) w201 M00) M cfr := by
  intro k
  induction k using Nat.strongRecOn with
  | _ k ih =>
    intro M ρ cfr hk hU hM hS
    refine arunG_of (ρ0 := ρ) (g := 3) (M0 := M) (w := ([], [])) prs0 hL (k201 hL) (fun r h => aPost_up (w := w201) (by decide) hU h) ?_ 100 _ _ ρ M cfr u204_1x hS hM (aUnw.refl _ _) (Nat.le_refl 3) (agr_refl _ _)
    intro c hc ρ' M' cfr' hS' hM' hU' hag
    have ec := List.mem_singleton.mp hc
    subst ec
    have eM := aUnw_nil hU'
    subst eM
    have e2 : ρ' 2 = ρ 2 := hag 2 (by decide)
    have c3 := hS'.ce (q := ((90, aid 2), aid 3)) (List.mem_cons_self ..)
    dsimp only at c3
    rw [aev_id, aev_id] at c3
    obtain ⟨ρc, hSc, hρc⟩ := aconv sgI u204_7 hS'
    have q2 : ρc 2 = ρ' 2 := (hρc 2 (aid 2) rfl).trans aev_id
    have q3 : ρc 3 = ρ' 3 := (hρc 3 (aid 3) rfl).trans aev_id
    exact lI204 hL (k := k) (fun M ρ cfr h => ih _ h M ρ cfr rfl) _ M' ρc cfr' rfl (by omega) (by rw [q2, q3]; exact c3.2) hU hM' hSc
theorem h204n (hL : L ≤ 2560) : aCon xs L ct_204n := by
  intro M as hM hRk hpv hpre
  obtain ⟨ρ2, hS⟩ := aentry (xs := xs) (c := ct_204n) hL hRk hpv
  show aGl xs L (aPost (some (-1, 95)) w201 M) M [(204, 0, xent 204 as, [])]
  refine arunG_of (ρ0 := ρ2) (g := 1) (M0 := M) (w := w201) prs0 hL (k201 hL) (fun r h => aPost_no h) ?_ 100 _ _ ρ2 M _ u204_0 hS hM (aUnw.refl _ _) (by decide) (agr_refl _ _)
  intro c hc ρ' M' cfr' hS' hM' hU' hag
  have ec := List.mem_singleton.mp hc
  subst ec
  obtain ⟨ρc, hSc, hρc⟩ := aconv sg0 u204_5 hS'
  exact lO204 hL _ M' ρc cfr' rfl hU' hM' hSc
theorem co_ct_204n (hL : L ≤ 2560) : aCon xs L ct_204n := h204n hL
end AUN
