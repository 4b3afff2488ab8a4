/-! FEED, both sides alike -/
section AYH
variable {xs : Nat → Int32} {L : Nat} {M : xM}
theorem wF1_l (p i : Nat) (h1 : 79 ≤ p) (h2 : p ≤ 81) : aWin wF1 p i = false := by
  rcases p79 h1 h2 with e | e | e <;> subst e <;> rfl
theorem wF2_l (p i : Nat) (h1 : 79 ≤ p) (h2 : p ≤ 81) : aWin wF2 p i = false := by
  rcases p79 h1 h2 with e | e | e <;> subst e <;> rfl
theorem feed_two (hL : L ≤ 2560) (hM : aInv M) (hR : aRk M) (hJ : bJ M) (h1 : (M 15 1).toInt = (M 56 16).toInt) (h2 : (M 17 8).toInt = (M 56 17).toInt) (u : Int64) (n : Int32) : ∃ v M1 M2, aTwo xs L 112 172 [.long u, .int n] v M M1 M2 ∧ bJ M2 ∧ (M2 15 1).toInt = (M2 56 16).toInt ∧ (M2 17 8).toInt = (M2 56 17).toInt := by
  by_cases c1 : 1 ≤ n.toInt ∧ n.toInt ≤ 8
  · by_cases c2 : 120 < (M 15 1).toInt + n.toInt
    · exact ⟨-4, M, M, ⟨fun R hr => f112_ (Q := R) hL hM hR (fun h => absurd c1 h) (fun _ _ => hr) (fun _ h => absurd c2 (by omega)), fun R hr => f172_ (Q := R) hL hM hR (fun h => absurd c1 h) (fun _ _ => hr) (fun _ h => absurd c2 (by omega)), hM, hR, hM, hR⟩, hJ, h1, h2⟩
    · obtain ⟨n1, r1, e1, x1, M1, er1, a1, a2, a3, a4, a5, a6⟩ := f112_ (xs := xs) (L := L) (M0 := M) (u := u) (n := n) (Q := fun r => ∃ (x : Int32) (M' : xM), r = (some (.int x), 102, xsh0, M') ∧ aInv M' ∧ aRk M' ∧ aUnw wF1 M M' ∧ (M' 15 1).toInt = (M 15 1).toInt + n.toInt ∧ x.toInt = (M 15 1).toInt + n.toInt ∧ fedI 16 (fun k => cb u (Int32.ofInt k)) (M 15 1).toInt n.toInt n.toInt M M') hL hM hR (fun h => absurd c1 h) (fun _ h => absurd h c2) (fun _ _ x M' b1 b2 b3 b4 b5 b6 => ⟨x, M', rfl, b1, b2, b3, b4, b5, b6⟩)
      have hT : (M1 56 16).toInt = (M 15 1).toInt := by
        rw [a3 56 16 rfl]
        exact h1.symm
      obtain ⟨n2, r2, e2, x2, M2, er2, d1, d2, d3, d4, d5, d6⟩ := f172_ (xs := xs) (L := L) (M0 := M1) (u := u) (n := n) (Q := fun r => ∃ (x : Int32) (M' : xM), r = (some (.int x), 102, xsh0, M') ∧ aInv M' ∧ aRk M' ∧ aUnw wF2 M1 M' ∧ (M' 56 16).toInt = (M1 56 16).toInt + n.toInt ∧ x.toInt = (M1 56 16).toInt + n.toInt ∧ fedI 70 (fun k => mb u (Int32.ofInt k)) (M1 56 16).toInt n.toInt n.toInt M1 M') hL a1 a2 (fun h => absurd c1 h) (fun _ h => absurd h (by omega)) (fun _ _ x M' b1 b2 b3 b4 b5 b6 => ⟨x, M', rfl, b1, b2, b3, b4, b5, b6⟩)
      have ex : x2 = x1 := Int32.toInt_inj.mp (by omega)
      subst ex
      subst er1
      subst er2
      refine ⟨x2, M1, M2, ⟨fun R hr => ⟨n1, _, e1, hr⟩, fun R hr => ⟨n2, _, e2, hr⟩, a1, a2, d1, d2⟩, ⟨fun i => ?_, lOk_kept wF2_l (lOk_kept wF1_l hJ.2 a3) d3⟩, ?_, ?_⟩
      · rw [d3 16 i rfl, a6 i, d6 i, hT, a3 70 i rfl]
        by_cases c : (M 15 1).toInt ≤ i ∧ (i : Int) < (M 15 1).toInt + n.toInt
        · rw [if_pos c, if_pos c]
          exact cbmb_i u (by omega) (by omega)
        · rw [if_neg c, if_neg c]
          exact hJ.1 i
      · rw [d3 15 1 rfl]
        omega
      · rw [d3 17 8 rfl, a3 17 8 rfl, d3 56 17 rfl, a3 56 17 rfl]
        exact h2
  · exact ⟨-2, M, M, ⟨fun R hr => f112_ (Q := R) hL hM hR (fun _ => hr) (fun h => absurd h c1) (fun h => absurd h c1), fun R hr => f172_ (Q := R) hL hM hR (fun _ => hr) (fun h => absurd h c1) (fun h => absurd h c1), hM, hR, hM, hR⟩, hJ, h1, h2⟩
end AYH
