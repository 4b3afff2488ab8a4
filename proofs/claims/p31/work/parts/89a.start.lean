/-! THE START: the invariant holds -/
def aC2 : Bool := (List.range 102).all (fun p => match aIvA p with
  | some q => aC1 p (fun x => ileb q.1 x.toInt && ileb x.toInt q.2)
  | none => true)
set_option maxRecDepth 100000 in
theorem aC2_ok : aC2 = true := by decide +kernel
theorem aIvA_lt {p : Nat} {q : Int × Int} (h : aIvA p = some q) : p < 102 := by
  by_cases c : p < 102
  · exact c
  · have hb : ∀ k, k < 102 → Nat.ble p k = false := fun k hk => by
      cases e : Nat.ble p k with
      | false => rfl
      | true => exact absurd (Nat.le_of_ble_eq_true e) (by omega)
    have he : Nat.beq p 100 = false := by
      cases e : Nat.beq p 100 with
      | false => rfl
      | true => exact absurd (Nat.eq_of_beq_eq_true e) (by omega)
    simp only [aIvA, hb 64 (by decide), hb 81 (by decide), hb 91 (by decide), hb 99 (by decide), he, cond_false] at h
    cases h
def aC3 : Bool := aIvFl.all (fun t => (match xsh0[t.1.1]? with
  | some d => Nat.ble (t.1.2 + 1) (xsl1 d)
  | none => false) && (ileb t.2.1 (xMt t.1.1 t.1.2).toInt && ileb (xMt t.1.1 t.1.2).toInt t.2.2))
set_option maxRecDepth 100000 in
theorem aC3_ok : aC3 = true := by decide +kernel
theorem aIvOk_0 : aIvOk xM0 := by
  refine ⟨fun p q h i => ?_, fun p b q h => ?_⟩
  · have h1 := List.all_eq_true.mp aC2_ok p (List.mem_range.mpr (aIvA_lt h))
    rw [h] at h1
    have h2 := aC1_of h1 i
    rw [Bool.and_eq_true, ileb_iff, ileb_iff] at h2
    exact h2
  · unfold aIvF at h
    split at h
    · rename_i t e
      cases h
      have hm := List.mem_of_find?_eq_some e
      have he := List.find?_some e
      rw [Bool.and_eq_true] at he
      have e1 : t.1.1 = p := Nat.eq_of_beq_eq_true he.1
      have e2 : t.1.2 = b := Nat.eq_of_beq_eq_true he.2
      have h1 := List.all_eq_true.mp aC3_ok t hm
      rw [Bool.and_eq_true, Bool.and_eq_true, ileb_iff, ileb_iff] at h1
      rw [e1, e2] at h1
      have h2 := h1.1
      split at h2
      · rename_i d hd
        rw [xM0_in hd (Nat.le_of_ble_eq_true h2)]
        exact h1.2
      · cases h2
    · cases h
set_option maxRecDepth 100000 in
theorem aC0_13 : aC1 13 (fun x => decide (x = 0)) = true := by decide +kernel
set_option maxRecDepth 100000 in
theorem aC0_68 : aC1 68 (fun x => decide (x = 0)) = true := by decide +kernel
set_option maxRecDepth 100000 in
theorem aC0_58 : aC1 58 (fun x => decide (x = 0)) = true := by decide +kernel
theorem xM0_56 {b : Nat} (hb : b < 59) : xM0 56 b = xMt 56 b := xM0_in (p := 56) rfl hb
theorem aLk_0 {p p' : Nat} (h : aC1 p (fun x => decide (x = 0)) = true) : aLk xM0 p p' := by
  intro s _ i j hi
  rw [of_decide_eq_true (aC1_of h s)] at hi
  have : (0 : Int32).toInt = 0 := rfl
  omega
set_option maxRecDepth 100000 in
theorem aC8_ok : (List.range 9).all (fun i => ileb ((xMt 80 i).toInt + (xMt 81 i).toInt) 47) = true := by decide +kernel
theorem aX_0 : aX xM0 := by
  refine ⟨aLk_0 aC0_13, aLk_0 aC0_68, fun i hi => ?_, fun h => ?_, fun h => ?_, fun i => ?_, ?_⟩
  · rw [of_decide_eq_true (aC1_of aC0_58 i)]
    have : (0 : Int32).toInt = 0 := rfl
    omega
  · rw [xM0_56 (by decide)] at h
    exact absurd h (by decide)
  · rw [xM0_56 (by decide)] at h
    exact absurd h (by decide)
  · by_cases hi : i < 9
    · rw [xM0_in (p := 80) (d := .inl (.int, 9)) rfl hi, xM0_in (p := 81) (d := .inl (.int, 9)) rfl hi]
      exact ileb_iff.mp (List.all_eq_true.mp aC8_ok i (List.mem_range.mpr hi))
    · have h9 : ∀ p, xsh0[p]? = some (.inl (.int, 9)) → xM0 p i = 0 := fun p hp => xzo_0 p i (fun d hd => by
        rw [hp] at hd
        cases hd
        show 9 ≤ i
        omega)
      rw [h9 80 rfl, h9 81 rfl]
      decide
  · rw [xM0_56 (by decide), xM0_56 (by decide)]
    decide
theorem aInv_0 : aInv xM0 := ⟨aIvOk_0, aX_0⟩
set_option maxRecDepth 100000 in
theorem aC9_ok : aRws.all (fun r => aC1 r.2.2.1 (fun x => ileb r.2.2.2.2.1 (arwv r.2.2.2.1 x) && ileb (arwv r.2.2.2.1 x) r.2.2.2.2.2)) = true := by decide +kernel
theorem aRk_0 : aRk xM0 := by
  intro j r hj i _ _
  have h1 := List.all_eq_true.mp aC9_ok r (List.mem_of_getElem? hj)
  have h2 := aC1_of h1 i
  rw [Bool.and_eq_true, ileb_iff, ileb_iff] at h2
  exact h2
