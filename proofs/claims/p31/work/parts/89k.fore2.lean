/-! BY HAND: foreseen leaves what is RELEASED as it was -/
def w201n : aW := ([93, 94, 95], [(56, 43), (56, 50)])
def ct_201n : aCt := (201, [.inr (.inr 56)], [], some (-1, 7), w201n)
def e0 : Nat × Int × Int := (0, (0, 2560))
def R_ (p : Nat) : Option aV := some (.inr (.inr (.inl p)))
def r_ (p : Nat) : aV := .inr (.inr (.inl p))
def nA : aCutG := (b201 [] 7 (vi 2) none none none, (3, [e0, (1, aFull), (2, (0, 8))], [], [], [], [], []))
def nA0 : aCutG := (b201 [] 7 (some (.inl (aco 0))) none none none, (2, [e0, (1, aFull)], [], [], [], [], []))
def nA1 : aCutG := (b201 [] 7 (vk 1 2) none none none, (3, [e0, (1, aFull), (2, (0, 7))], [], [], [], [], []))
def nX1 : aCutG := (b201 [.inl (aid 3), .inl (aid 2), r_ 95] 24 (vi 2) none none none, (4, [e0, (1, aFull), (2, (0, 7)), (3, (0, 1))], [], [((91, aid 2), aid 3)], [], [], []))
def nB : aCutG := (b201 [] 35 (vi 5) (vi 6) none none, (7, [e0, (1, aFull), (2, (8, 8)), (5, (-1, 7)), (6, (0, 1))], [], [], [], [], []))
def nH (l : Option aV) (E : aE) (n : Nat) : aCutG := ([(201, 189, [R_ 56, none, vi 1, none, l, none], [])], (n, e0 :: (1, (-1, 7)) :: E, [], [], [], [], []))
def nX4 : aCutG := ([(201, 209, [R_ 56, none, vi 1, none, vi 2, none], [.inl (aid 3), .inl (aid 2), r_ 91])], (4, [e0, (1, (-1, 7)), (2, (0, 7)), (3, (0, 1))], [], [((95, aid 2), aid 3)], [], [], []))
def nR4 : aCutG := ([(201, 217, [R_ 56, none, vi 1, none, vi 2, none], [.inl (aid 1)])], (3, [e0, (1, (-1, 7)), (2, (8, 8))], [], [], [], [], []))
theorem n201_0 : arunG [] [] ([], []) [nA0] 1 (some (1, 0)) 100 [(201, 0, axent 201 (aen ct_201n.2.1 1 [(0, (0, 2560))]).1, [])] (aK0 ct_201n) = true := by decide +kernel
theorem n201_1 : arunG [] [] ([], []) [nX1, nB] 3 (some (1, 0)) 100 nA.1 nA.2 = true := by decide +kernel
theorem n201_2 : arunG [] [] ([], []) [nA1] 3 (some (1, 0)) 100 (b201 [] 25 (vi 2) none none none) (kcl nX1.2) = true := by decide +kernel
theorem n201_3 : (achF [(0, aid 0), (1, aid 1), (2, aco 0)] nA.1 nA0.1 && achKU [(0, aid 0), (1, aid 1), (2, aco 0)] nA.2 nA0.2) = true := by decide +kernel
theorem n201_4 : (achF [(0, aid 0), (1, aid 1), (2, (1, [(2, 1)]))] nA.1 nA1.1 && achKU [(0, aid 0), (1, aid 1), (2, (1, [(2, 1)]))] nA.2 nA1.2) = true := by decide +kernel
theorem n201_5 : (achF [(0, aid 0), (1, aid 1), (2, aid 5), (3, aid 6)] cB201.1 nB.1 && achKU [(0, aid 0), (1, aid 1), (2, aid 5), (3, aid 6)] cB201.2.1 nB.2) = true := by decide +kernel
def w4n : aW := ([], [(56, 43), (56, 50)])
theorem n201_6 : arunG [] [] w4n [nH (some (.inl (aco 0))) [] 2] 1 (some (1, 0)) 100 cG201.1 cG201.2.1 = true := by decide +kernel
theorem n201_7 : arunG [] [] ([], []) [nX4, nR4] 3 (some (1, 0)) 100 (nH (vi 2) [(2, (0, 8))] 3).1 (nH (vi 2) [(2, (0, 8))] 3).2 = true := by decide +kernel
theorem n201_8 : arunG [] [] ([], []) [nH (vk 1 2) [(2, (0, 7))] 3] 3 (some (1, 0)) 100 [(201, 210, [R_ 56, none, vi 1, none, vi 2, none], [])] (kcl nX4.2) = true := by decide +kernel
theorem n201_9 : (achF [(0, aid 0), (1, aid 1), (2, aco 0)] (nH (vi 2) [(2, (0, 8))] 3).1 (nH (some (.inl (aco 0))) [] 2).1 && achKU [(0, aid 0), (1, aid 1), (2, aco 0)] (nH (vi 2) [(2, (0, 8))] 3).2 (nH (some (.inl (aco 0))) [] 2).2) = true := by decide +kernel
theorem n201_10 : (achF [(0, aid 0), (1, aid 1), (2, (1, [(2, 1)]))] (nH (vi 2) [(2, (0, 8))] 3).1 (nH (vk 1 2) [(2, (0, 7))] 3).1 && achKU [(0, aid 0), (1, aid 1), (2, (1, [(2, 1)]))] (nH (vi 2) [(2, (0, 8))] 3).2 (nH (vk 1 2) [(2, (0, 7))] 3).2) = true := by decide +kernel
theorem aev_s {ρ : Nat → Int} {c : Int} {k : Nat} : aev ρ (c, [(k, 1)]) = c + ρ k := by
  show c + (1 * ρ k + 0) = _
  omega
section AFN
variable {xs : Nat → Int32} {L : Nat} {M00 : xM}
/-- what is kept of row 91: its copy in 95, and what lies beyond -/
def kp1 (M00 M : xM) : Prop := (∀ j : Nat, j < 8 → M 95 j = M00 91 j) ∧ (∀ i : Nat, 8 ≤ i → M 91 i = M00 91 i)
theorem lH (hL : L ≤ 2560) : ∀ (n : Nat) (M : xM) (ρ : Nat → Int) (cfr : List cFr), (8 - ρ 2).toNat = n → (∀ j : Nat, (j : Int) < ρ 2 → M 91 j = M00 91 j) → kp1 M00 M → aUnw w201 M00 M → aInv M → aHS xs L [] M (nH (vi 2) [(2, (0, 8))] 3).2 ρ (nH (vi 2) [(2, (0, 8))] 3).1 cfr → aGl xs L (aPost (some (-1, 7)) w201n M00) M cfr := by
  intro n
  induction n using Nat.strongRecOn with
  | _ n ih =>
    intro M ρ cfr hn hj hk hU hM hS
    have hR := hS.rk rfl
    refine arunG_of (ρ0 := ρ) (g := 3) (M0 := M) prs0 hL allc0 (fun r h => aPost_no h) ?_ 100 _ _ ρ M cfr n201_7 hS hM (aUnw.refl _ M) (Nat.le_refl 3) (agr_refl _ _)
    intro c hc ρ' M' cfr' hS' hM' hU' hag
    have eM : M' = M := aUnw_nil hU'
    subst eM
    have e2 : ρ' 2 = ρ 2 := hag 2 (by decide)
    rcases List.mem_cons.mp hc with ec | hc
    · subst ec
      have b2 := hS'.bd (t := (2, (0, 7))) (by decide)
      have b3 := hS'.bd (t := (3, (0, 1))) (by decide)
      have c3 := hS'.ce (q := ((95, aid 2), aid 3)) (List.mem_cons_self ..)
      dsimp only at b2 b3 c3
      rw [aev_id, aev_id] at c3
      refine store_b (p := 91) (n := 8) rfl rfl hS' (by rw [aev_id]; omega) (by rw [aev_id]; omega) (by rw [aev_id]; omega) (fun x cfr2 hx hh => ?_)
      rw [aev_id] at hx ⊢
      obtain ⟨i1, i2, i3⟩ := st_ok (p := 91) (q := (0, 1)) hM hR rfl rfl (by decide) (by decide) (by decide) (ρ' 2).toNat (x := x) (by dsimp only; omega)
      refine arunG_of (ρ0 := ρ') (g := 3) (M0 := xup M' 91 (ρ' 2).toNat x) prs0 hL allc0 (fun r h => aPost_no h) ?_ 100 _ _ ρ' _ cfr2 n201_8 (hh _ i2) i1 (aUnw.refl _ _) (by decide) (agr_refl _ _)
      intro c hc ρ3 M3 cfr3 hS3 hM3 hU3 hag3
      have ec := List.mem_singleton.mp hc
      subst ec
      have eM := aUnw_nil hU3
      subst eM
      obtain ⟨ρc, hSc, hρc⟩ := aconv [(0, aid 0), (1, aid 1), (2, (1, [(2, 1)]))] n201_10 hS3
      have q2 : ρc 2 = 1 + ρ3 2 := (hρc 2 (1, [(2, 1)]) rfl).trans aev_s
      have u2 : ρ3 2 = ρ' 2 := hag3 2 (by decide)
      have hx0 : x = M00 91 (ρ' 2).toNat := by
        rw [← hk.1 (ρ' 2).toNat (by omega)]
        exact Int32.toInt_inj.mp (by rw [hx, ← c3.2])
      refine ih (8 - ρc 2).toNat (by omega) _ ρc cfr3 rfl (fun j hjj => ?_) ⟨fun j hj8 => ?_, fun i hi => ?_⟩ (hU.trans (aUnw_sub (by decide) i3)) hM3 hSc
      · by_cases hje : j = (ρ' 2).toNat
        · subst hje
          rw [xup_self, hx0]
        · rw [xup_ne (Or.inr hje)]
          exact hj j (by omega)
      · rw [xup_ne (Or.inl (by decide))]
        exact hk.1 j hj8
      · rw [xup_ne (Or.inr (by omega))]
        exact hk.2 i hi
    · have ec := List.mem_singleton.mp hc
      subst ec
      have b1 := hS'.bd (t := (1, (-1, 7))) (by decide)
      have b2 := hS'.bd (t := (2, (8, 8))) (by decide)
      dsimp only at b1 b2
      refine ret_i (y := 201) (pc := 217) rfl rfl hS' (fun x hx => ⟨M', rfl, hM, hR, ?_, fun p i h => ?_⟩)
      · rw [aev_id] at hx
        show (-1 : Int) ≤ x.toInt ∧ x.toInt ≤ 7
        omega
      · by_cases hp : p = 91
        · subst hp
          by_cases hi : i < 8
          · exact hj i (by omega)
          · exact hk.2 i (by omega)
        · refine hU p i ?_
          cases c : aWin w201 p i with
          | false => rfl
          | true =>
            exfalso
            unfold aWin w201 at c
            unfold aWin w201n at h
            simp only [List.any_cons, List.any_nil, Bool.or_false, Bool.or_eq_true, Bool.or_eq_false_iff, Bool.and_eq_true, Nat.beq_eq] at c h
            rcases c with (c | c | c | c) | c
            · exact hp c
            · rw [c] at h; exact absurd h.1.1 (by decide)
            · rw [c] at h; exact absurd h.1.2.1 (by decide)
            · rw [c] at h; exact absurd h.1.2.2 (by decide)
            · rcases c with ⟨c1, c2⟩ | ⟨c1, c2⟩
              · rw [c1, c2] at h; exact absurd h.2.1 (by decide)
              · rw [c1, c2] at h; exact absurd h.2.2 (by decide)
theorem lB2 (hL : L ≤ 2560) : ∀ (n : Nat) (M : xM) (ρ : Nat → Int) (cfr : List cFr), z91 M = n → aInv M → kp1 M00 M → aUnw w201 M00 M → aHS xs L [] M cB201.2.1 ρ cB201.1 cfr → aGl xs L (aPost (some (-1, 7)) w201n M00) M cfr := by
  intro n
  induction n using Nat.strongRecOn with
  | _ n ih =>
    intro M ρ cfr hn hM hk hU hS
    refine arunX_of (M0 := M) (w := w2_201) prs0 hL (allc (k198 hL) allc_nil) (fun r h => aPost_no h) r201_2 ?_ r201_2s hS hM (aUnw.refl _ M)
    intro c hc ρ' M' cfr' hS' hM' hU'
    have hUU : aUnw w201 M00 M' := hU.trans (aUnw_sub (by decide) hU')
    have hR' := hS'
    have hk' : kp1 M00 M' := ⟨fun j hj => by rw [hU' 95 j rfl]; exact hk.1 j hj, fun i hi => by rw [hU' 91 i rfl]; exact hk.2 i hi⟩
    rcases List.mem_cons.mp hc with ec | hc
    · subst ec
      have b4 := hS'.bd (t := (4, (0, 7))) (by decide)
      have b5 := hS'.bd (t := (5, (0, 0))) (by decide)
      have c4 := hS'.ce (q := ((91, aid 4), aid 5)) (List.mem_cons_self ..)
      dsimp only at b4 b5 c4
      rw [aev_id, aev_id] at c4
      refine store_b (p := 91) (n := 8) rfl rfl hS' (by rw [aev_id]; omega) (by rw [aev_id]; omega) (by rw [aev_co]; decide) (fun x cfr2 hx hh => ?_)
      rw [aev_co] at hx
      rw [aev_id]
      have hx1 : x = 1 := Int32.toInt_inj.mp hx
      subst hx1
      have hz : M' 91 (ρ' 4).toNat = 0 := Int32.toInt_inj.mp (by rw [c4.2]; show ρ' 5 = 0; omega)
      obtain ⟨i1, i2, i3⟩ := st91 hM' (hS'.rk rfl) (ρ' 4).toNat
      refine arunX_of (M0 := xup M' 91 (ρ' 4).toNat 1) (w := ([], [])) prs0 hL allc0 (fun r h => aPost_no h) r201_3x ?_ r201_3 (hh _ i2) i1 (aUnw.refl _ _)
      intro c hc ρ3 M3 cfr3 hS3 hM3 hU3
      have ec := List.mem_singleton.mp hc
      subst ec
      have eM := aUnw_nil hU3
      subst eM
      refine ih (z91 (xup M' 91 (ρ' 4).toNat 1)) ?_ _ ρ3 cfr3 rfl hM3 ⟨fun j hj => ?_, fun i hi => ?_⟩ (hUU.trans (aUnw_sub (by decide) i3)) hS3
      · rw [← hn, ← z91_eq (M := M) (M' := M') (fun i => hU' 91 i rfl)]
        exact z91_lt (by omega) hz
      · rw [xup_ne (Or.inl (by decide))]
        exact hk'.1 j hj
      · rw [xup_ne (Or.inr (by omega))]
        exact hk'.2 i hi
    · have ec := List.mem_singleton.mp hc
      subst ec
      refine arunG_of (ρ0 := ρ') (g := 1) (M0 := M') prs0 hL allc0 (fun r h => aPost_no h) ?_ 100 _ _ ρ' M' cfr' n201_6 hS' hM' (aUnw.refl _ _) (by decide) (agr_refl _ _)
      intro c hc ρ3 M3 cfr3 hS3 hM3 hU3 hag3
      have ec := List.mem_singleton.mp hc
      subst ec
      obtain ⟨ρc, hSc, hρc⟩ := aconv [(0, aid 0), (1, aid 1), (2, aco 0)] n201_9 hS3
      have q2 : ρc 2 = 0 := (hρc 2 (aco 0) rfl).trans aev_co
      exact lH hL _ M3 ρc cfr3 rfl (fun j hj => by omega) ⟨fun j hj => by rw [hU3 95 j rfl]; exact hk'.1 j hj, fun i hi => by rw [hU3 91 i rfl]; exact hk'.2 i hi⟩ (hUU.trans (aUnw_sub (by decide) hU3)) hM3 hSc
theorem lA2 (hL : L ≤ 2560) : ∀ (n : Nat) (M : xM) (ρ : Nat → Int) (cfr : List cFr), (8 - ρ 2).toNat = n → (∀ j : Nat, (j : Int) < ρ 2 → M 95 j = M00 91 j) → (∀ i, M 91 i = M00 91 i) → aUnw w201 M00 M → aInv M → aHS xs L [] M nA.2 ρ nA.1 cfr → aGl xs L (aPost (some (-1, 7)) w201n M00) M cfr := by
  intro n
  induction n using Nat.strongRecOn with
  | _ n ih =>
    intro M ρ cfr hn hj h91 hU hM hS
    have hR := hS.rk rfl
    refine arunG_of (ρ0 := ρ) (g := 3) (M0 := M) prs0 hL allc0 (fun r h => aPost_no h) ?_ 100 _ _ ρ M cfr n201_1 hS hM (aUnw.refl _ M) (Nat.le_refl 3) (agr_refl _ _)
    intro c hc ρ' M' cfr' hS' hM' hU' hag
    have eM : M' = M := aUnw_nil hU'
    subst eM
    have e2 : ρ' 2 = ρ 2 := hag 2 (by decide)
    rcases List.mem_cons.mp hc with ec | hc
    · subst ec
      have b2 := hS'.bd (t := (2, (0, 7))) (by decide)
      have b3 := hS'.bd (t := (3, (0, 1))) (by decide)
      have c3 := hS'.ce (q := ((91, aid 2), aid 3)) (List.mem_cons_self ..)
      dsimp only at b2 b3 c3
      rw [aev_id, aev_id] at c3
      refine store_b (p := 95) (n := 8) rfl rfl hS' (by rw [aev_id]; omega) (by rw [aev_id]; omega) (by rw [aev_id]; omega) (fun x cfr2 hx hh => ?_)
      rw [aev_id] at hx ⊢
      obtain ⟨i1, i2, i3⟩ := st_ok (p := 95) (q := (0, 1)) hM hR rfl rfl (by decide) (by decide) (by decide) (ρ' 2).toNat (x := x) (by dsimp only; omega)
      refine arunG_of (ρ0 := ρ') (g := 3) (M0 := xup M' 95 (ρ' 2).toNat x) prs0 hL allc0 (fun r h => aPost_no h) ?_ 100 _ _ ρ' _ cfr2 n201_2 (hh _ i2) i1 (aUnw.refl _ _) (by decide) (agr_refl _ _)
      intro c hc ρ3 M3 cfr3 hS3 hM3 hU3 hag3
      have ec := List.mem_singleton.mp hc
      subst ec
      have eM := aUnw_nil hU3
      subst eM
      obtain ⟨ρc, hSc, hρc⟩ := aconv [(0, aid 0), (1, aid 1), (2, (1, [(2, 1)]))] n201_4 hS3
      have q2 : ρc 2 = 1 + ρ3 2 := (hρc 2 (1, [(2, 1)]) rfl).trans aev_s
      have u2 : ρ3 2 = ρ' 2 := hag3 2 (by decide)
      have hx0 : x = M00 91 (ρ' 2).toNat := by
        rw [← h91]
        exact Int32.toInt_inj.mp (by rw [hx, ← c3.2])
      refine ih (8 - ρc 2).toNat (by omega) _ ρc cfr3 rfl (fun j hjj => ?_) (fun i => ?_) (hU.trans (aUnw_sub (by decide) i3)) hM3 hSc
      · by_cases hje : j = (ρ' 2).toNat
        · subst hje
          rw [xup_self, hx0]
        · rw [xup_ne (Or.inr hje)]
          exact hj j (by omega)
      · rw [xup_ne (Or.inl (by decide))]
        exact h91 i
    · have ec := List.mem_singleton.mp hc
      subst ec
      have b2 := hS'.bd (t := (2, (8, 8))) (by decide)
      dsimp only at b2
      obtain ⟨ρc, hSc, hρc⟩ := aconv [(0, aid 0), (1, aid 1), (2, aid 5), (3, aid 6)] n201_5 hS'
      exact lB2 hL _ M' ρc cfr' rfl hM' ⟨fun j hj8 => hj j (by omega), fun i _ => h91 i⟩ hU hSc
theorem h201n (hL : L ≤ 2560) : aCon xs L ct_201n := by
  intro M as hM hRk hpv hpre
  obtain ⟨ρ2, hS⟩ := aentry (xs := xs) (c := ct_201n) hL hRk hpv
  show aGl xs L (aPost (some (-1, 7)) w201n M) M [(201, 0, xent 201 as, [])]
  refine arunG_of (ρ0 := ρ2) (g := 1) (M0 := M) prs0 hL allc0 (fun r h => aPost_no h) ?_ 100 _ _ ρ2 M _ n201_0 hS hM (aUnw.refl _ _) (by decide) (agr_refl _ _)
  intro c hc ρ' M' cfr' hS' hM' hU' hag
  have ec := List.mem_singleton.mp hc
  subst ec
  have eM := aUnw_nil hU'
  subst eM
  obtain ⟨ρc, hSc, hρc⟩ := aconv [(0, aid 0), (1, aid 1), (2, aco 0)] n201_3 hS'
  have q2 : ρc 2 = 0 := (hρc 2 (aco 0) rfl).trans aev_co
  exact lA2 hL _ M' ρc cfr' rfl (fun j hj => by omega) (fun i => rfl) (aUnw.refl _ _) hM' hSc
end AFN
def ct_202n : aCt := (202, [.inr (.inr 56)], [], some (-1, 7), w201n)
def ct_203n : aCt := (203, [.inr (.inr 56)], [], some (.negSucc 2147483647, .ofNat 2147483647), w201n)
def ct_204m : aCt := (204, [.inr (.inr 56)], [], some (.negSucc 0, .ofNat 95), ([90, 93, 94, 95], [(56, 43), (56, 50)]))
theorem ck_202n : ackc [ct_201n] ct_202n [] 0 100 = true := by decide +kernel
theorem ck_203n : ackc [ct_201n] ct_203n [] 0 100 = true := by decide +kernel
theorem ck_204m : ackc [ct_201n] ct_204m cu_ct_204 5 400 = true := by decide +kernel
theorem co_ct_202n {xs : Nat → Int32} {L : Nat} (hL : L ≤ 2560) : aCon xs L ct_202n := ackc_of hL (allc (h201n hL) allc_nil) ck_202n
theorem co_ct_203n {xs : Nat → Int32} {L : Nat} (hL : L ≤ 2560) : aCon xs L ct_203n := ackc_of hL (allc (h201n hL) allc_nil) ck_203n
theorem co_ct_204m {xs : Nat → Int32} {L : Nat} (hL : L ≤ 2560) : aCon xs L ct_204m := ackc_of hL (allc (h201n hL) allc_nil) ck_204m
