/-! RULE(), both sides -/
def bJ (M : xM) : Prop := (∀ i, M 16 i = M 70 i &&& 255) ∧ lOk M
section AYR
variable {xs : Nat → Int32} {L : Nat} {M : xM}
theorem bJ_ok (h : bJ M) : tOk M := fun i => by
  rw [h.1 i]
  exact mB_b (M := M) (i := i)
theorem rulC_eq {g : tSt} {T n x x' m m' : Int} (h : rulC g T n x m) (h' : rulC g T n x' m') : x = x' ∧ m = m' := by
  by_cases c : g.2 = false ∧ g.1 = T
  · have a := h.1 c
    have b := h'.1 c
    exact ⟨by omega, by omega⟩
  · have a := h.2 c
    have b := h'.2 c
    exact ⟨by omega, by omega⟩
theorem wC2_l (p i : Nat) (h1 : 79 ≤ p) (h2 : p ≤ 81) : aWin wC2 p i = false := by
  rcases p79 h1 h2 with e | e | e <;> subst e <;> rfl
theorem rule_two (hL : L ≤ 2560) (hM : aInv M) (hR : aRk M) (hJ : bJ M) (h1 : (M 15 1).toInt = (M 56 16).toInt) (h2 : (M 17 8).toInt = (M 56 17).toInt) : ∃ v M1 M2, aTwo xs L 113 180 [] v M M1 M2 ∧ bJ M2 ∧ (M2 15 1).toInt = (M2 56 16).toInt ∧ (M2 17 8).toInt = (M2 56 17).toInt := by
  have h8 := hM.1.2 17 8 (0, 10) rfl
  dsimp only at h8
  by_cases h10 : (M 17 8).toInt = 10
  · refine ⟨-4, M, M, ⟨fun R hr => f113_ (Q := R) hL hM hR (bJ_ok hJ) (fun _ => hr) (fun h => absurd h (by omega)), fun R hr => f180_ (Q := R) hL hM hR hJ.2 (fun _ => hr) (fun h => absurd h (by omega)), hM, hR, hM, hR⟩, hJ, h1, h2⟩
  · obtain ⟨n1, r1, e1, x1, M1, er1, a1, a2, a3, a4, a5⟩ := f113_ (xs := xs) (L := L) (M0 := M) (Q := fun r => ∃ (x : Int32) (M' : xM), r = (some (.int x), 102, xsh0, M') ∧ aInv M' ∧ aRk M' ∧ aUnw wC2 M M' ∧ (M' 15 1).toInt = 0 ∧ rulC (gram (tB M) (tT M)) (tT M) (M 17 8).toInt x.toInt (M' 17 8).toInt) hL hM hR (bJ_ok hJ) (fun h => absurd h h10) (fun _ x M' b1 b2 b3 b4 b5 b6 => ⟨x, M', rfl, b1, b2, b4, b5, b6⟩)
    have hk1 : lOk M1 := lOk_kept wC2_l hJ.2 a3
    have hB : mB M1 = tB M := by
      funext i
      unfold mB tB
      rw [a3 70 i rfl, hJ.1 i]
    have hT : mT M1 = tT M := by
      unfold mT tT
      rw [a3 56 16 rfl]
      exact h1.symm
    have h17 : (M1 56 17).toInt = (M 17 8).toInt := by
      rw [a3 56 17 rfl]
      exact h2.symm
    obtain ⟨n2, r2, e2, x2, M2, er2, c1, c2, c3, c4, c5, c6⟩ := f180_ (xs := xs) (L := L) (M0 := M1) (Q := fun r => ∃ (x : Int32) (M' : xM), r = (some (.int x), 102, xsh0, M') ∧ aInv M' ∧ aRk M' ∧ lOk M' ∧ aUnw wC2m M1 M' ∧ (M' 56 16).toInt = 0 ∧ rulC (gram (mB M1) (mT M1)) (mT M1) (M1 56 17).toInt x.toInt (M' 56 17).toInt) hL a1 a2 hk1 (fun h => absurd h (by omega)) (fun _ x M' b1 b2 b3 b4 b5 b6 => ⟨x, M', rfl, b1, b2, b3, b4, b5, b6⟩)
    rw [hB, hT, h17] at c6
    have heq := rulC_eq a5 c6
    have ex : x2 = x1 := Int32.toInt_inj.mp heq.1.symm
    subst ex
    subst er1
    subst er2
    refine ⟨x2, M1, M2, ⟨fun R hr => ⟨n1, _, e1, hr⟩, fun R hr => ⟨n2, _, e2, hr⟩, a1, a2, c1, c2⟩, ⟨fun i => ?_, c3⟩, ?_, ?_⟩
    · rw [c4 16 i rfl, c4 70 i rfl, a3 16 i rfl, a3 70 i rfl]
      exact hJ.1 i
    · rw [c4 15 1 rfl, a4, c5]
    · rw [c4 17 8 rfl]
      exact heq.2
end AYR
