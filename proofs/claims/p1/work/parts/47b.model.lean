def xF (M : xM) : Option xZ := xrun0 false 40000 201 (0, [some (.ref 56), none, none, none, none, none], [], 102, xshE, M)
def xFok (r : Option xZ) : Bool := match r with
  | some r => decide (r.1 = some (.int (-1))) && xagree xshE xMtB r.2.2.2
  | none => false
theorem xF_A : xFok (xF xMt) = true := by decide +kernel
theorem xF_B : xFok (xF xMtB) = true := by decide +kernel
theorem xagree_at {sh : List xSh} {M1 M2 : xM} (h : xagree sh M1 M2 = true) {p : Nat} {d : xSh} (hp : sh[p]? = some d) {i : Nat} (hi : i < xsl1 d) : M1 p i = M2 p i := by
  have h1 := List.all_eq_true.mp h p (List.mem_range.mpr (List.getElem?_eq_some_iff.mp hp).1)
  rw [hp] at h1
  exact of_decide_eq_true (List.all_eq_true.mp h1 i (List.mem_range.mpr hi))
theorem xF_con {T : xM} (hT : xFok (xF T) = true) {M : xM} (hM : xsim xshE xshD T M) : P0 201 (0, [some (.ref 56), none, none, none, none, none], [], 102, xshD, M) (fun r => ∃ M', r = (some (.int (-1)), 102, xshD, M') ∧ xsim xshE xshD xMtB M') := by
  cases hr : xF T with
  | none => rw [hr] at hT; cases hT
  | some r =>
    rw [hr] at hT
    have hT : (decide (r.1 = some (.int (-1))) && xagree xshE xMtB r.2.2.2) = true := hT
    rw [Bool.and_eq_true] at hT
    have hv := of_decide_eq_true hT.1
    obtain ⟨M1, M2, e1, e2, e3, e4⟩ := xsim_run 40000 201 0 [some (.ref 56), none, none, none, none, none] [] 102 xshE xshD T M r hM hr
    refine ⟨40000, _, e2, M2, by rw [hv], fun p d hp => ?_⟩
    rcases e3 p d hp with q | q
    · exact Or.inl q
    · refine Or.inr ⟨q.1, fun i hi => ?_⟩
      have hag := xagree_at hT.2 hp hi
      rw [e1] at hag
      rw [hag]
      exact q.2 i hi
theorem xsim_blind {sh1 sh2 : List xSh} {M1 M2 : xM} (h : xsim sh1 sh2 M1 M2) {p : Nat} (hp : sh1[p]? = some xdm) (i : Nat) (v : Int32) : xsim sh1 sh2 M1 (xup M2 p i v) := by
  intro k d hk
  rcases h k d hk with q | q
  · exact Or.inl q
  · by_cases e : k = p
    · subst e
      rw [hp] at hk
      cases hk
      exact Or.inl rfl
    · refine Or.inr ⟨q.1, fun j hj => ?_⟩
      simp only [xup, va_up, if_neg e]
      exact q.2 j hj
def xshsim (sh1 sh2 : List xSh) : Bool := (List.range sh1.length).all (fun p => match sh1[p]?, sh2[p]? with
  | some d, some d2 => xsheq d xdm || xsheq d d2
  | _, _ => false)
theorem xshsim_of {sh1 sh2 : List xSh} (h : xshsim sh1 sh2 = true) (M : xM) : xsim sh1 sh2 M M := by
  intro p d hp
  have h1 := List.all_eq_true.mp h p (List.mem_range.mpr (List.getElem?_eq_some_iff.mp hp).1)
  cases h2 : sh2[p]? with
  | none => simp only [hp, h2] at h1; cases h1
  | some d2 =>
    simp only [hp, h2, Bool.or_eq_true] at h1
    rcases h1 with q | q
    · exact Or.inl (xsheq_of q)
    · exact Or.inr ⟨by rw [xsheq_of q], fun _ _ => rfl⟩
theorem xED : xshsim xshE xshD = true := by decide +kernel
theorem xEP : xshE[90]? = some xdm := by decide +kernel
set_option maxRecDepth 100000 in
theorem wm_foresee : P0 202 (0, [some (.ref 56)], [], 102, xshD, xMt) (fun r => r.1 = some (.int (-1))) := by
  refine P0.go (k := 1) (s' := (1, [some (.ref 56)], [.ref 56], 102, xshD, xMt)) rfl ?_
  refine P0.call (z := 201) (as := [.ref 56]) (pc := 4) (pl := [some (.ref 56)]) (st := []) (nz := 102) (sh := xshD) (M := xMt) rfl (Nat.le_of_ble_eq_true rfl) ?_
  show P0 201 (0, [some (.ref 56), none, none, none, none, none], [], 102, xshD, xMt) _
  refine (xF_con xF_A (xshsim_of xED xMt)).imp (fun r hr => ?_)
  obtain ⟨N1, rfl, g1⟩ := hr
  refine ⟨rfl, ?_⟩
  show P0 202 (4, [some (.ref 56)], [.int (-1)], 102, xshD, N1) _
  exact P0.ret (v := some (.int (-1))) rfl rfl
set_option maxRecDepth 100000 in
theorem wm_needs : P0 203 (0, [some (.ref 56), none], [], 102, xshD, xMt) (fun r => r.1 = some (.int 8)) := by
  refine P0.go (k := 1) (s' := (1, [some (.ref 56), none], [.ref 56], 102, xshD, xMt)) rfl ?_
  refine P0.call (z := 201) (as := [.ref 56]) (pc := 4) (pl := [some (.ref 56), none]) (st := []) (nz := 102) (sh := xshD) (M := xMt) rfl (Nat.le_of_ble_eq_true rfl) ?_
  show P0 201 (0, [some (.ref 56), none, none, none, none, none], [], 102, xshD, xMt) _
  refine (xF_con xF_A (xshsim_of xED xMt)).imp (fun r hr => ?_)
  obtain ⟨N1, rfl, g1⟩ := hr
  refine ⟨rfl, ?_⟩
  show P0 203 (4, [some (.ref 56), none], [.int (-1)], 102, xshD, N1) _
  refine P0.go (k := 3) (s' := (9, [some (.ref 56), some (.int (-1))], [.int (N1 56 50)], 102, xshD, N1)) rfl ?_
  refine P0.ret (v := some (.int (N1 56 50))) rfl ?_
  have hp : xshE[56]? = some (xshE.getD 56 xdm) := by decide +kernel
  rcases g1 56 _ hp with q | q
  · exact absurd q (by decide +kernel)
  · have e := q.2 50 (by decide +kernel)
    have e8 : xMtB 56 50 = 8 := by decide +kernel
    show some (Value.int (N1 56 50)) = some (Value.int 8)
    rw [← e, e8]
set_option maxRecDepth 100000 in
set_option maxHeartbeats 40000000 in
theorem wm_turned : P0 204 (0, [some (.ref 56), none, none, none, none, none], [], 102, xshD, xMt) (fun r => r.1 = some (.int (-1))) := by
  refine P0.go (k := 1) (s' := (1, [some (.ref 56), none, none, none, none, none], [.ref 56], 102, xshD, xMt)) rfl ?_
  refine P0.call (z := 201) (as := [.ref 56]) (pc := 4) (pl := [some (.ref 56), none, none, none, none, none]) (st := []) (nz := 102) (sh := xshD) (M := xMt) rfl (Nat.le_of_ble_eq_true rfl) ?_
  show P0 201 (0, [some (.ref 56), none, none, none, none, none], [], 102, xshD, xMt) _
  refine (xF_con xF_A (xshsim_of xED xMt)).imp (fun r hr => ?_)
  obtain ⟨N0, rfl, g0⟩ := hr
  refine ⟨rfl, ?_⟩
  show P0 204 (4, [some (.ref 56), none, none, none, none, none], [.int (-1)], 102, xshD, N0) _
  obtain ⟨w0, ew0⟩ : ∃ z : Int32, z = N0 90 0 := ⟨_, rfl⟩
  refine P0.go (k := 22) (s' := (39, [some (.ref 56), some (.int (-1)), some (.int 0), some (.int (N0 90 0)), some (.int 0), none], [.ref 56], 102, xshD, (xup N0 90 0 0))) rfl ?_
  rw [← ew0]
  refine P0.call (z := 201) (as := [.ref 56]) (pc := 42) (pl := [some (.ref 56), some (.int (-1)), some (.int 0), some (.int w0), some (.int 0), none]) (st := []) (nz := 102) (sh := xshD) (M := (xup N0 90 0 0)) rfl (Nat.le_of_ble_eq_true rfl) ?_
  show P0 201 (0, [some (.ref 56), none, none, none, none, none], [], 102, xshD, (xup N0 90 0 0)) _
  refine (xF_con xF_B (xsim_blind g0 xEP 0 0)).imp (fun r hr => ?_)
  obtain ⟨N1, rfl, g1⟩ := hr
  refine ⟨rfl, ?_⟩
  show P0 204 (42, [some (.ref 56), some (.int (-1)), some (.int 0), some (.int w0), some (.int 0), none], [.int (-1)], 102, xshD, N1) _
  refine P0.go (k := 9) (s' := (65, [some (.ref 56), some (.int (-1)), some (.int 0), some (.int w0), some (.int 0), some (.int (-1))], [], 102, xshD, (xup N1 90 0 w0))) rfl ?_
  refine P0.go (k := 11) (s' := (39, [some (.ref 56), some (.int (-1)), some (.int 0), some (.int w0), some (.int 1), some (.int (-1))], [.ref 56], 102, xshD, (xup (xup N1 90 0 w0) 90 0 1))) rfl ?_
  refine P0.call (z := 201) (as := [.ref 56]) (pc := 42) (pl := [some (.ref 56), some (.int (-1)), some (.int 0), some (.int w0), some (.int 1), some (.int (-1))]) (st := []) (nz := 102) (sh := xshD) (M := (xup (xup N1 90 0 w0) 90 0 1)) rfl (Nat.le_of_ble_eq_true rfl) ?_
  show P0 201 (0, [some (.ref 56), none, none, none, none, none], [], 102, xshD, (xup (xup N1 90 0 w0) 90 0 1)) _
  refine (xF_con xF_B (xsim_blind (xsim_blind g1 xEP 0 w0) xEP 0 1)).imp (fun r hr => ?_)
  obtain ⟨N2, rfl, g2⟩ := hr
  refine ⟨rfl, ?_⟩
  show P0 204 (42, [some (.ref 56), some (.int (-1)), some (.int 0), some (.int w0), some (.int 1), some (.int (-1))], [.int (-1)], 102, xshD, N2) _
  refine P0.go (k := 9) (s' := (65, [some (.ref 56), some (.int (-1)), some (.int 0), some (.int w0), some (.int 1), some (.int (-1))], [], 102, xshD, (xup N2 90 0 w0))) rfl ?_
  refine P0.go (k := 11) (s' := (39, [some (.ref 56), some (.int (-1)), some (.int 0), some (.int w0), some (.int 2), some (.int (-1))], [.ref 56], 102, xshD, (xup (xup N2 90 0 w0) 90 0 2))) rfl ?_
  refine P0.call (z := 201) (as := [.ref 56]) (pc := 42) (pl := [some (.ref 56), some (.int (-1)), some (.int 0), some (.int w0), some (.int 2), some (.int (-1))]) (st := []) (nz := 102) (sh := xshD) (M := (xup (xup N2 90 0 w0) 90 0 2)) rfl (Nat.le_of_ble_eq_true rfl) ?_
  show P0 201 (0, [some (.ref 56), none, none, none, none, none], [], 102, xshD, (xup (xup N2 90 0 w0) 90 0 2)) _
  refine (xF_con xF_B (xsim_blind (xsim_blind g2 xEP 0 w0) xEP 0 2)).imp (fun r hr => ?_)
  obtain ⟨N3, rfl, g3⟩ := hr
  refine ⟨rfl, ?_⟩
  show P0 204 (42, [some (.ref 56), some (.int (-1)), some (.int 0), some (.int w0), some (.int 2), some (.int (-1))], [.int (-1)], 102, xshD, N3) _
  refine P0.go (k := 9) (s' := (65, [some (.ref 56), some (.int (-1)), some (.int 0), some (.int w0), some (.int 2), some (.int (-1))], [], 102, xshD, (xup N3 90 0 w0))) rfl ?_
  refine P0.go (k := 11) (s' := (39, [some (.ref 56), some (.int (-1)), some (.int 0), some (.int w0), some (.int 3), some (.int (-1))], [.ref 56], 102, xshD, (xup (xup N3 90 0 w0) 90 0 3))) rfl ?_
  refine P0.call (z := 201) (as := [.ref 56]) (pc := 42) (pl := [some (.ref 56), some (.int (-1)), some (.int 0), some (.int w0), some (.int 3), some (.int (-1))]) (st := []) (nz := 102) (sh := xshD) (M := (xup (xup N3 90 0 w0) 90 0 3)) rfl (Nat.le_of_ble_eq_true rfl) ?_
  show P0 201 (0, [some (.ref 56), none, none, none, none, none], [], 102, xshD, (xup (xup N3 90 0 w0) 90 0 3)) _
  refine (xF_con xF_B (xsim_blind (xsim_blind g3 xEP 0 w0) xEP 0 3)).imp (fun r hr => ?_)
  obtain ⟨N4, rfl, g4⟩ := hr
  refine ⟨rfl, ?_⟩
  show P0 204 (42, [some (.ref 56), some (.int (-1)), some (.int 0), some (.int w0), some (.int 3), some (.int (-1))], [.int (-1)], 102, xshD, N4) _
  refine P0.go (k := 9) (s' := (65, [some (.ref 56), some (.int (-1)), some (.int 0), some (.int w0), some (.int 3), some (.int (-1))], [], 102, xshD, (xup N4 90 0 w0))) rfl ?_
  refine P0.go (k := 11) (s' := (39, [some (.ref 56), some (.int (-1)), some (.int 0), some (.int w0), some (.int 4), some (.int (-1))], [.ref 56], 102, xshD, (xup (xup N4 90 0 w0) 90 0 4))) rfl ?_
  refine P0.call (z := 201) (as := [.ref 56]) (pc := 42) (pl := [some (.ref 56), some (.int (-1)), some (.int 0), some (.int w0), some (.int 4), some (.int (-1))]) (st := []) (nz := 102) (sh := xshD) (M := (xup (xup N4 90 0 w0) 90 0 4)) rfl (Nat.le_of_ble_eq_true rfl) ?_
  show P0 201 (0, [some (.ref 56), none, none, none, none, none], [], 102, xshD, (xup (xup N4 90 0 w0) 90 0 4)) _
  refine (xF_con xF_B (xsim_blind (xsim_blind g4 xEP 0 w0) xEP 0 4)).imp (fun r hr => ?_)
  obtain ⟨N5, rfl, g5⟩ := hr
  refine ⟨rfl, ?_⟩
  show P0 204 (42, [some (.ref 56), some (.int (-1)), some (.int 0), some (.int w0), some (.int 4), some (.int (-1))], [.int (-1)], 102, xshD, N5) _
  refine P0.go (k := 9) (s' := (65, [some (.ref 56), some (.int (-1)), some (.int 0), some (.int w0), some (.int 4), some (.int (-1))], [], 102, xshD, (xup N5 90 0 w0))) rfl ?_
  refine P0.go (k := 11) (s' := (39, [some (.ref 56), some (.int (-1)), some (.int 0), some (.int w0), some (.int 5), some (.int (-1))], [.ref 56], 102, xshD, (xup (xup N5 90 0 w0) 90 0 5))) rfl ?_
  refine P0.call (z := 201) (as := [.ref 56]) (pc := 42) (pl := [some (.ref 56), some (.int (-1)), some (.int 0), some (.int w0), some (.int 5), some (.int (-1))]) (st := []) (nz := 102) (sh := xshD) (M := (xup (xup N5 90 0 w0) 90 0 5)) rfl (Nat.le_of_ble_eq_true rfl) ?_
  show P0 201 (0, [some (.ref 56), none, none, none, none, none], [], 102, xshD, (xup (xup N5 90 0 w0) 90 0 5)) _
  refine (xF_con xF_B (xsim_blind (xsim_blind g5 xEP 0 w0) xEP 0 5)).imp (fun r hr => ?_)
  obtain ⟨N6, rfl, g6⟩ := hr
  refine ⟨rfl, ?_⟩
  show P0 204 (42, [some (.ref 56), some (.int (-1)), some (.int 0), some (.int w0), some (.int 5), some (.int (-1))], [.int (-1)], 102, xshD, N6) _
  refine P0.go (k := 9) (s' := (65, [some (.ref 56), some (.int (-1)), some (.int 0), some (.int w0), some (.int 5), some (.int (-1))], [], 102, xshD, (xup N6 90 0 w0))) rfl ?_
  refine P0.go (k := 11) (s' := (39, [some (.ref 56), some (.int (-1)), some (.int 0), some (.int w0), some (.int 6), some (.int (-1))], [.ref 56], 102, xshD, (xup (xup N6 90 0 w0) 90 0 6))) rfl ?_
  refine P0.call (z := 201) (as := [.ref 56]) (pc := 42) (pl := [some (.ref 56), some (.int (-1)), some (.int 0), some (.int w0), some (.int 6), some (.int (-1))]) (st := []) (nz := 102) (sh := xshD) (M := (xup (xup N6 90 0 w0) 90 0 6)) rfl (Nat.le_of_ble_eq_true rfl) ?_
  show P0 201 (0, [some (.ref 56), none, none, none, none, none], [], 102, xshD, (xup (xup N6 90 0 w0) 90 0 6)) _
  refine (xF_con xF_B (xsim_blind (xsim_blind g6 xEP 0 w0) xEP 0 6)).imp (fun r hr => ?_)
  obtain ⟨N7, rfl, g7⟩ := hr
  refine ⟨rfl, ?_⟩
  show P0 204 (42, [some (.ref 56), some (.int (-1)), some (.int 0), some (.int w0), some (.int 6), some (.int (-1))], [.int (-1)], 102, xshD, N7) _
  refine P0.go (k := 9) (s' := (65, [some (.ref 56), some (.int (-1)), some (.int 0), some (.int w0), some (.int 6), some (.int (-1))], [], 102, xshD, (xup N7 90 0 w0))) rfl ?_
  refine P0.go (k := 11) (s' := (39, [some (.ref 56), some (.int (-1)), some (.int 0), some (.int w0), some (.int 7), some (.int (-1))], [.ref 56], 102, xshD, (xup (xup N7 90 0 w0) 90 0 7))) rfl ?_
  refine P0.call (z := 201) (as := [.ref 56]) (pc := 42) (pl := [some (.ref 56), some (.int (-1)), some (.int 0), some (.int w0), some (.int 7), some (.int (-1))]) (st := []) (nz := 102) (sh := xshD) (M := (xup (xup N7 90 0 w0) 90 0 7)) rfl (Nat.le_of_ble_eq_true rfl) ?_
  show P0 201 (0, [some (.ref 56), none, none, none, none, none], [], 102, xshD, (xup (xup N7 90 0 w0) 90 0 7)) _
  refine (xF_con xF_B (xsim_blind (xsim_blind g7 xEP 0 w0) xEP 0 7)).imp (fun r hr => ?_)
  obtain ⟨N8, rfl, g8⟩ := hr
  refine ⟨rfl, ?_⟩
  show P0 204 (42, [some (.ref 56), some (.int (-1)), some (.int 0), some (.int w0), some (.int 7), some (.int (-1))], [.int (-1)], 102, xshD, N8) _
  refine P0.go (k := 9) (s' := (65, [some (.ref 56), some (.int (-1)), some (.int 0), some (.int w0), some (.int 7), some (.int (-1))], [], 102, xshD, (xup N8 90 0 w0))) rfl ?_
  obtain ⟨w1, ew1⟩ : ∃ z : Int32, z = (xup N8 90 0 w0) 90 1 := ⟨_, rfl⟩
  refine P0.go (k := 26) (s' := (39, [some (.ref 56), some (.int (-1)), some (.int 1), some (.int ((xup N8 90 0 w0) 90 1)), some (.int 0), some (.int (-1))], [.ref 56], 102, xshD, (xup (xup N8 90 0 w0) 90 1 0))) rfl ?_
  rw [← ew1]
  refine P0.call (z := 201) (as := [.ref 56]) (pc := 42) (pl := [some (.ref 56), some (.int (-1)), some (.int 1), some (.int w1), some (.int 0), some (.int (-1))]) (st := []) (nz := 102) (sh := xshD) (M := (xup (xup N8 90 0 w0) 90 1 0)) rfl (Nat.le_of_ble_eq_true rfl) ?_
  show P0 201 (0, [some (.ref 56), none, none, none, none, none], [], 102, xshD, (xup (xup N8 90 0 w0) 90 1 0)) _
  refine (xF_con xF_B (xsim_blind (xsim_blind g8 xEP 0 w0) xEP 1 0)).imp (fun r hr => ?_)
  obtain ⟨N9, rfl, g9⟩ := hr
  refine ⟨rfl, ?_⟩
  show P0 204 (42, [some (.ref 56), some (.int (-1)), some (.int 1), some (.int w1), some (.int 0), some (.int (-1))], [.int (-1)], 102, xshD, N9) _
  refine P0.go (k := 9) (s' := (65, [some (.ref 56), some (.int (-1)), some (.int 1), some (.int w1), some (.int 0), some (.int (-1))], [], 102, xshD, (xup N9 90 1 w1))) rfl ?_
  refine P0.go (k := 11) (s' := (39, [some (.ref 56), some (.int (-1)), some (.int 1), some (.int w1), some (.int 1), some (.int (-1))], [.ref 56], 102, xshD, (xup (xup N9 90 1 w1) 90 1 1))) rfl ?_
  refine P0.call (z := 201) (as := [.ref 56]) (pc := 42) (pl := [some (.ref 56), some (.int (-1)), some (.int 1), some (.int w1), some (.int 1), some (.int (-1))]) (st := []) (nz := 102) (sh := xshD) (M := (xup (xup N9 90 1 w1) 90 1 1)) rfl (Nat.le_of_ble_eq_true rfl) ?_
  show P0 201 (0, [some (.ref 56), none, none, none, none, none], [], 102, xshD, (xup (xup N9 90 1 w1) 90 1 1)) _
  refine (xF_con xF_B (xsim_blind (xsim_blind g9 xEP 1 w1) xEP 1 1)).imp (fun r hr => ?_)
  obtain ⟨N10, rfl, g10⟩ := hr
  refine ⟨rfl, ?_⟩
  show P0 204 (42, [some (.ref 56), some (.int (-1)), some (.int 1), some (.int w1), some (.int 1), some (.int (-1))], [.int (-1)], 102, xshD, N10) _
  refine P0.go (k := 9) (s' := (65, [some (.ref 56), some (.int (-1)), some (.int 1), some (.int w1), some (.int 1), some (.int (-1))], [], 102, xshD, (xup N10 90 1 w1))) rfl ?_
  refine P0.go (k := 11) (s' := (39, [some (.ref 56), some (.int (-1)), some (.int 1), some (.int w1), some (.int 2), some (.int (-1))], [.ref 56], 102, xshD, (xup (xup N10 90 1 w1) 90 1 2))) rfl ?_
  refine P0.call (z := 201) (as := [.ref 56]) (pc := 42) (pl := [some (.ref 56), some (.int (-1)), some (.int 1), some (.int w1), some (.int 2), some (.int (-1))]) (st := []) (nz := 102) (sh := xshD) (M := (xup (xup N10 90 1 w1) 90 1 2)) rfl (Nat.le_of_ble_eq_true rfl) ?_
  show P0 201 (0, [some (.ref 56), none, none, none, none, none], [], 102, xshD, (xup (xup N10 90 1 w1) 90 1 2)) _
  refine (xF_con xF_B (xsim_blind (xsim_blind g10 xEP 1 w1) xEP 1 2)).imp (fun r hr => ?_)
  obtain ⟨N11, rfl, g11⟩ := hr
  refine ⟨rfl, ?_⟩
  show P0 204 (42, [some (.ref 56), some (.int (-1)), some (.int 1), some (.int w1), some (.int 2), some (.int (-1))], [.int (-1)], 102, xshD, N11) _
  refine P0.go (k := 9) (s' := (65, [some (.ref 56), some (.int (-1)), some (.int 1), some (.int w1), some (.int 2), some (.int (-1))], [], 102, xshD, (xup N11 90 1 w1))) rfl ?_
  refine P0.go (k := 11) (s' := (39, [some (.ref 56), some (.int (-1)), some (.int 1), some (.int w1), some (.int 3), some (.int (-1))], [.ref 56], 102, xshD, (xup (xup N11 90 1 w1) 90 1 3))) rfl ?_
  refine P0.call (z := 201) (as := [.ref 56]) (pc := 42) (pl := [some (.ref 56), some (.int (-1)), some (.int 1), some (.int w1), some (.int 3), some (.int (-1))]) (st := []) (nz := 102) (sh := xshD) (M := (xup (xup N11 90 1 w1) 90 1 3)) rfl (Nat.le_of_ble_eq_true rfl) ?_
  show P0 201 (0, [some (.ref 56), none, none, none, none, none], [], 102, xshD, (xup (xup N11 90 1 w1) 90 1 3)) _
  refine (xF_con xF_B (xsim_blind (xsim_blind g11 xEP 1 w1) xEP 1 3)).imp (fun r hr => ?_)
  obtain ⟨N12, rfl, g12⟩ := hr
  refine ⟨rfl, ?_⟩
  show P0 204 (42, [some (.ref 56), some (.int (-1)), some (.int 1), some (.int w1), some (.int 3), some (.int (-1))], [.int (-1)], 102, xshD, N12) _
  refine P0.go (k := 9) (s' := (65, [some (.ref 56), some (.int (-1)), some (.int 1), some (.int w1), some (.int 3), some (.int (-1))], [], 102, xshD, (xup N12 90 1 w1))) rfl ?_
  refine P0.go (k := 11) (s' := (39, [some (.ref 56), some (.int (-1)), some (.int 1), some (.int w1), some (.int 4), some (.int (-1))], [.ref 56], 102, xshD, (xup (xup N12 90 1 w1) 90 1 4))) rfl ?_
  refine P0.call (z := 201) (as := [.ref 56]) (pc := 42) (pl := [some (.ref 56), some (.int (-1)), some (.int 1), some (.int w1), some (.int 4), some (.int (-1))]) (st := []) (nz := 102) (sh := xshD) (M := (xup (xup N12 90 1 w1) 90 1 4)) rfl (Nat.le_of_ble_eq_true rfl) ?_
  show P0 201 (0, [some (.ref 56), none, none, none, none, none], [], 102, xshD, (xup (xup N12 90 1 w1) 90 1 4)) _
  refine (xF_con xF_B (xsim_blind (xsim_blind g12 xEP 1 w1) xEP 1 4)).imp (fun r hr => ?_)
  obtain ⟨N13, rfl, g13⟩ := hr
  refine ⟨rfl, ?_⟩
  show P0 204 (42, [some (.ref 56), some (.int (-1)), some (.int 1), some (.int w1), some (.int 4), some (.int (-1))], [.int (-1)], 102, xshD, N13) _
  refine P0.go (k := 9) (s' := (65, [some (.ref 56), some (.int (-1)), some (.int 1), some (.int w1), some (.int 4), some (.int (-1))], [], 102, xshD, (xup N13 90 1 w1))) rfl ?_
  refine P0.go (k := 11) (s' := (39, [some (.ref 56), some (.int (-1)), some (.int 1), some (.int w1), some (.int 5), some (.int (-1))], [.ref 56], 102, xshD, (xup (xup N13 90 1 w1) 90 1 5))) rfl ?_
  refine P0.call (z := 201) (as := [.ref 56]) (pc := 42) (pl := [some (.ref 56), some (.int (-1)), some (.int 1), some (.int w1), some (.int 5), some (.int (-1))]) (st := []) (nz := 102) (sh := xshD) (M := (xup (xup N13 90 1 w1) 90 1 5)) rfl (Nat.le_of_ble_eq_true rfl) ?_
  show P0 201 (0, [some (.ref 56), none, none, none, none, none], [], 102, xshD, (xup (xup N13 90 1 w1) 90 1 5)) _
  refine (xF_con xF_B (xsim_blind (xsim_blind g13 xEP 1 w1) xEP 1 5)).imp (fun r hr => ?_)
  obtain ⟨N14, rfl, g14⟩ := hr
  refine ⟨rfl, ?_⟩
  show P0 204 (42, [some (.ref 56), some (.int (-1)), some (.int 1), some (.int w1), some (.int 5), some (.int (-1))], [.int (-1)], 102, xshD, N14) _
  refine P0.go (k := 9) (s' := (65, [some (.ref 56), some (.int (-1)), some (.int 1), some (.int w1), some (.int 5), some (.int (-1))], [], 102, xshD, (xup N14 90 1 w1))) rfl ?_
  refine P0.go (k := 11) (s' := (39, [some (.ref 56), some (.int (-1)), some (.int 1), some (.int w1), some (.int 6), some (.int (-1))], [.ref 56], 102, xshD, (xup (xup N14 90 1 w1) 90 1 6))) rfl ?_
  refine P0.call (z := 201) (as := [.ref 56]) (pc := 42) (pl := [some (.ref 56), some (.int (-1)), some (.int 1), some (.int w1), some (.int 6), some (.int (-1))]) (st := []) (nz := 102) (sh := xshD) (M := (xup (xup N14 90 1 w1) 90 1 6)) rfl (Nat.le_of_ble_eq_true rfl) ?_
  show P0 201 (0, [some (.ref 56), none, none, none, none, none], [], 102, xshD, (xup (xup N14 90 1 w1) 90 1 6)) _
  refine (xF_con xF_B (xsim_blind (xsim_blind g14 xEP 1 w1) xEP 1 6)).imp (fun r hr => ?_)
  obtain ⟨N15, rfl, g15⟩ := hr
  refine ⟨rfl, ?_⟩
  show P0 204 (42, [some (.ref 56), some (.int (-1)), some (.int 1), some (.int w1), some (.int 6), some (.int (-1))], [.int (-1)], 102, xshD, N15) _
  refine P0.go (k := 9) (s' := (65, [some (.ref 56), some (.int (-1)), some (.int 1), some (.int w1), some (.int 6), some (.int (-1))], [], 102, xshD, (xup N15 90 1 w1))) rfl ?_
  refine P0.go (k := 11) (s' := (39, [some (.ref 56), some (.int (-1)), some (.int 1), some (.int w1), some (.int 7), some (.int (-1))], [.ref 56], 102, xshD, (xup (xup N15 90 1 w1) 90 1 7))) rfl ?_
  refine P0.call (z := 201) (as := [.ref 56]) (pc := 42) (pl := [some (.ref 56), some (.int (-1)), some (.int 1), some (.int w1), some (.int 7), some (.int (-1))]) (st := []) (nz := 102) (sh := xshD) (M := (xup (xup N15 90 1 w1) 90 1 7)) rfl (Nat.le_of_ble_eq_true rfl) ?_
  show P0 201 (0, [some (.ref 56), none, none, none, none, none], [], 102, xshD, (xup (xup N15 90 1 w1) 90 1 7)) _
  refine (xF_con xF_B (xsim_blind (xsim_blind g15 xEP 1 w1) xEP 1 7)).imp (fun r hr => ?_)
  obtain ⟨N16, rfl, g16⟩ := hr
  refine ⟨rfl, ?_⟩
  show P0 204 (42, [some (.ref 56), some (.int (-1)), some (.int 1), some (.int w1), some (.int 7), some (.int (-1))], [.int (-1)], 102, xshD, N16) _
  refine P0.go (k := 9) (s' := (65, [some (.ref 56), some (.int (-1)), some (.int 1), some (.int w1), some (.int 7), some (.int (-1))], [], 102, xshD, (xup N16 90 1 w1))) rfl ?_
  obtain ⟨w2, ew2⟩ : ∃ z : Int32, z = (xup N16 90 1 w1) 90 2 := ⟨_, rfl⟩
  refine P0.go (k := 26) (s' := (39, [some (.ref 56), some (.int (-1)), some (.int 2), some (.int ((xup N16 90 1 w1) 90 2)), some (.int 0), some (.int (-1))], [.ref 56], 102, xshD, (xup (xup N16 90 1 w1) 90 2 0))) rfl ?_
  rw [← ew2]
  refine P0.call (z := 201) (as := [.ref 56]) (pc := 42) (pl := [some (.ref 56), some (.int (-1)), some (.int 2), some (.int w2), some (.int 0), some (.int (-1))]) (st := []) (nz := 102) (sh := xshD) (M := (xup (xup N16 90 1 w1) 90 2 0)) rfl (Nat.le_of_ble_eq_true rfl) ?_
  show P0 201 (0, [some (.ref 56), none, none, none, none, none], [], 102, xshD, (xup (xup N16 90 1 w1) 90 2 0)) _
  refine (xF_con xF_B (xsim_blind (xsim_blind g16 xEP 1 w1) xEP 2 0)).imp (fun r hr => ?_)
  obtain ⟨N17, rfl, g17⟩ := hr
  refine ⟨rfl, ?_⟩
  show P0 204 (42, [some (.ref 56), some (.int (-1)), some (.int 2), some (.int w2), some (.int 0), some (.int (-1))], [.int (-1)], 102, xshD, N17) _
  refine P0.go (k := 9) (s' := (65, [some (.ref 56), some (.int (-1)), some (.int 2), some (.int w2), some (.int 0), some (.int (-1))], [], 102, xshD, (xup N17 90 2 w2))) rfl ?_
  refine P0.go (k := 11) (s' := (39, [some (.ref 56), some (.int (-1)), some (.int 2), some (.int w2), some (.int 1), some (.int (-1))], [.ref 56], 102, xshD, (xup (xup N17 90 2 w2) 90 2 1))) rfl ?_
  refine P0.call (z := 201) (as := [.ref 56]) (pc := 42) (pl := [some (.ref 56), some (.int (-1)), some (.int 2), some (.int w2), some (.int 1), some (.int (-1))]) (st := []) (nz := 102) (sh := xshD) (M := (xup (xup N17 90 2 w2) 90 2 1)) rfl (Nat.le_of_ble_eq_true rfl) ?_
  show P0 201 (0, [some (.ref 56), none, none, none, none, none], [], 102, xshD, (xup (xup N17 90 2 w2) 90 2 1)) _
  refine (xF_con xF_B (xsim_blind (xsim_blind g17 xEP 2 w2) xEP 2 1)).imp (fun r hr => ?_)
  obtain ⟨N18, rfl, g18⟩ := hr
  refine ⟨rfl, ?_⟩
  show P0 204 (42, [some (.ref 56), some (.int (-1)), some (.int 2), some (.int w2), some (.int 1), some (.int (-1))], [.int (-1)], 102, xshD, N18) _
  refine P0.go (k := 9) (s' := (65, [some (.ref 56), some (.int (-1)), some (.int 2), some (.int w2), some (.int 1), some (.int (-1))], [], 102, xshD, (xup N18 90 2 w2))) rfl ?_
  refine P0.go (k := 11) (s' := (39, [some (.ref 56), some (.int (-1)), some (.int 2), some (.int w2), some (.int 2), some (.int (-1))], [.ref 56], 102, xshD, (xup (xup N18 90 2 w2) 90 2 2))) rfl ?_
  refine P0.call (z := 201) (as := [.ref 56]) (pc := 42) (pl := [some (.ref 56), some (.int (-1)), some (.int 2), some (.int w2), some (.int 2), some (.int (-1))]) (st := []) (nz := 102) (sh := xshD) (M := (xup (xup N18 90 2 w2) 90 2 2)) rfl (Nat.le_of_ble_eq_true rfl) ?_
  show P0 201 (0, [some (.ref 56), none, none, none, none, none], [], 102, xshD, (xup (xup N18 90 2 w2) 90 2 2)) _
  refine (xF_con xF_B (xsim_blind (xsim_blind g18 xEP 2 w2) xEP 2 2)).imp (fun r hr => ?_)
  obtain ⟨N19, rfl, g19⟩ := hr
  refine ⟨rfl, ?_⟩
  show P0 204 (42, [some (.ref 56), some (.int (-1)), some (.int 2), some (.int w2), some (.int 2), some (.int (-1))], [.int (-1)], 102, xshD, N19) _
  refine P0.go (k := 9) (s' := (65, [some (.ref 56), some (.int (-1)), some (.int 2), some (.int w2), some (.int 2), some (.int (-1))], [], 102, xshD, (xup N19 90 2 w2))) rfl ?_
  refine P0.go (k := 11) (s' := (39, [some (.ref 56), some (.int (-1)), some (.int 2), some (.int w2), some (.int 3), some (.int (-1))], [.ref 56], 102, xshD, (xup (xup N19 90 2 w2) 90 2 3))) rfl ?_
  refine P0.call (z := 201) (as := [.ref 56]) (pc := 42) (pl := [some (.ref 56), some (.int (-1)), some (.int 2), some (.int w2), some (.int 3), some (.int (-1))]) (st := []) (nz := 102) (sh := xshD) (M := (xup (xup N19 90 2 w2) 90 2 3)) rfl (Nat.le_of_ble_eq_true rfl) ?_
  show P0 201 (0, [some (.ref 56), none, none, none, none, none], [], 102, xshD, (xup (xup N19 90 2 w2) 90 2 3)) _
  refine (xF_con xF_B (xsim_blind (xsim_blind g19 xEP 2 w2) xEP 2 3)).imp (fun r hr => ?_)
  obtain ⟨N20, rfl, g20⟩ := hr
  refine ⟨rfl, ?_⟩
  show P0 204 (42, [some (.ref 56), some (.int (-1)), some (.int 2), some (.int w2), some (.int 3), some (.int (-1))], [.int (-1)], 102, xshD, N20) _
  refine P0.go (k := 9) (s' := (65, [some (.ref 56), some (.int (-1)), some (.int 2), some (.int w2), some (.int 3), some (.int (-1))], [], 102, xshD, (xup N20 90 2 w2))) rfl ?_
  refine P0.go (k := 11) (s' := (39, [some (.ref 56), some (.int (-1)), some (.int 2), some (.int w2), some (.int 4), some (.int (-1))], [.ref 56], 102, xshD, (xup (xup N20 90 2 w2) 90 2 4))) rfl ?_
  refine P0.call (z := 201) (as := [.ref 56]) (pc := 42) (pl := [some (.ref 56), some (.int (-1)), some (.int 2), some (.int w2), some (.int 4), some (.int (-1))]) (st := []) (nz := 102) (sh := xshD) (M := (xup (xup N20 90 2 w2) 90 2 4)) rfl (Nat.le_of_ble_eq_true rfl) ?_
  show P0 201 (0, [some (.ref 56), none, none, none, none, none], [], 102, xshD, (xup (xup N20 90 2 w2) 90 2 4)) _
  refine (xF_con xF_B (xsim_blind (xsim_blind g20 xEP 2 w2) xEP 2 4)).imp (fun r hr => ?_)
  obtain ⟨N21, rfl, g21⟩ := hr
  refine ⟨rfl, ?_⟩
  show P0 204 (42, [some (.ref 56), some (.int (-1)), some (.int 2), some (.int w2), some (.int 4), some (.int (-1))], [.int (-1)], 102, xshD, N21) _
  refine P0.go (k := 9) (s' := (65, [some (.ref 56), some (.int (-1)), some (.int 2), some (.int w2), some (.int 4), some (.int (-1))], [], 102, xshD, (xup N21 90 2 w2))) rfl ?_
  refine P0.go (k := 11) (s' := (39, [some (.ref 56), some (.int (-1)), some (.int 2), some (.int w2), some (.int 5), some (.int (-1))], [.ref 56], 102, xshD, (xup (xup N21 90 2 w2) 90 2 5))) rfl ?_
  refine P0.call (z := 201) (as := [.ref 56]) (pc := 42) (pl := [some (.ref 56), some (.int (-1)), some (.int 2), some (.int w2), some (.int 5), some (.int (-1))]) (st := []) (nz := 102) (sh := xshD) (M := (xup (xup N21 90 2 w2) 90 2 5)) rfl (Nat.le_of_ble_eq_true rfl) ?_
  show P0 201 (0, [some (.ref 56), none, none, none, none, none], [], 102, xshD, (xup (xup N21 90 2 w2) 90 2 5)) _
  refine (xF_con xF_B (xsim_blind (xsim_blind g21 xEP 2 w2) xEP 2 5)).imp (fun r hr => ?_)
  obtain ⟨N22, rfl, g22⟩ := hr
  refine ⟨rfl, ?_⟩
  show P0 204 (42, [some (.ref 56), some (.int (-1)), some (.int 2), some (.int w2), some (.int 5), some (.int (-1))], [.int (-1)], 102, xshD, N22) _
  refine P0.go (k := 9) (s' := (65, [some (.ref 56), some (.int (-1)), some (.int 2), some (.int w2), some (.int 5), some (.int (-1))], [], 102, xshD, (xup N22 90 2 w2))) rfl ?_
  refine P0.go (k := 11) (s' := (39, [some (.ref 56), some (.int (-1)), some (.int 2), some (.int w2), some (.int 6), some (.int (-1))], [.ref 56], 102, xshD, (xup (xup N22 90 2 w2) 90 2 6))) rfl ?_
  refine P0.call (z := 201) (as := [.ref 56]) (pc := 42) (pl := [some (.ref 56), some (.int (-1)), some (.int 2), some (.int w2), some (.int 6), some (.int (-1))]) (st := []) (nz := 102) (sh := xshD) (M := (xup (xup N22 90 2 w2) 90 2 6)) rfl (Nat.le_of_ble_eq_true rfl) ?_
  show P0 201 (0, [some (.ref 56), none, none, none, none, none], [], 102, xshD, (xup (xup N22 90 2 w2) 90 2 6)) _
  refine (xF_con xF_B (xsim_blind (xsim_blind g22 xEP 2 w2) xEP 2 6)).imp (fun r hr => ?_)
  obtain ⟨N23, rfl, g23⟩ := hr
  refine ⟨rfl, ?_⟩
  show P0 204 (42, [some (.ref 56), some (.int (-1)), some (.int 2), some (.int w2), some (.int 6), some (.int (-1))], [.int (-1)], 102, xshD, N23) _
  refine P0.go (k := 9) (s' := (65, [some (.ref 56), some (.int (-1)), some (.int 2), some (.int w2), some (.int 6), some (.int (-1))], [], 102, xshD, (xup N23 90 2 w2))) rfl ?_
  refine P0.go (k := 11) (s' := (39, [some (.ref 56), some (.int (-1)), some (.int 2), some (.int w2), some (.int 7), some (.int (-1))], [.ref 56], 102, xshD, (xup (xup N23 90 2 w2) 90 2 7))) rfl ?_
  refine P0.call (z := 201) (as := [.ref 56]) (pc := 42) (pl := [some (.ref 56), some (.int (-1)), some (.int 2), some (.int w2), some (.int 7), some (.int (-1))]) (st := []) (nz := 102) (sh := xshD) (M := (xup (xup N23 90 2 w2) 90 2 7)) rfl (Nat.le_of_ble_eq_true rfl) ?_
  show P0 201 (0, [some (.ref 56), none, none, none, none, none], [], 102, xshD, (xup (xup N23 90 2 w2) 90 2 7)) _
  refine (xF_con xF_B (xsim_blind (xsim_blind g23 xEP 2 w2) xEP 2 7)).imp (fun r hr => ?_)
  obtain ⟨N24, rfl, g24⟩ := hr
  refine ⟨rfl, ?_⟩
  show P0 204 (42, [some (.ref 56), some (.int (-1)), some (.int 2), some (.int w2), some (.int 7), some (.int (-1))], [.int (-1)], 102, xshD, N24) _
  refine P0.go (k := 9) (s' := (65, [some (.ref 56), some (.int (-1)), some (.int 2), some (.int w2), some (.int 7), some (.int (-1))], [], 102, xshD, (xup N24 90 2 w2))) rfl ?_
  obtain ⟨w3, ew3⟩ : ∃ z : Int32, z = (xup N24 90 2 w2) 90 3 := ⟨_, rfl⟩
  refine P0.go (k := 26) (s' := (39, [some (.ref 56), some (.int (-1)), some (.int 3), some (.int ((xup N24 90 2 w2) 90 3)), some (.int 0), some (.int (-1))], [.ref 56], 102, xshD, (xup (xup N24 90 2 w2) 90 3 0))) rfl ?_
  rw [← ew3]
  refine P0.call (z := 201) (as := [.ref 56]) (pc := 42) (pl := [some (.ref 56), some (.int (-1)), some (.int 3), some (.int w3), some (.int 0), some (.int (-1))]) (st := []) (nz := 102) (sh := xshD) (M := (xup (xup N24 90 2 w2) 90 3 0)) rfl (Nat.le_of_ble_eq_true rfl) ?_
  show P0 201 (0, [some (.ref 56), none, none, none, none, none], [], 102, xshD, (xup (xup N24 90 2 w2) 90 3 0)) _
  refine (xF_con xF_B (xsim_blind (xsim_blind g24 xEP 2 w2) xEP 3 0)).imp (fun r hr => ?_)
  obtain ⟨N25, rfl, g25⟩ := hr
  refine ⟨rfl, ?_⟩
  show P0 204 (42, [some (.ref 56), some (.int (-1)), some (.int 3), some (.int w3), some (.int 0), some (.int (-1))], [.int (-1)], 102, xshD, N25) _
  refine P0.go (k := 9) (s' := (65, [some (.ref 56), some (.int (-1)), some (.int 3), some (.int w3), some (.int 0), some (.int (-1))], [], 102, xshD, (xup N25 90 3 w3))) rfl ?_
  refine P0.go (k := 11) (s' := (39, [some (.ref 56), some (.int (-1)), some (.int 3), some (.int w3), some (.int 1), some (.int (-1))], [.ref 56], 102, xshD, (xup (xup N25 90 3 w3) 90 3 1))) rfl ?_
  refine P0.call (z := 201) (as := [.ref 56]) (pc := 42) (pl := [some (.ref 56), some (.int (-1)), some (.int 3), some (.int w3), some (.int 1), some (.int (-1))]) (st := []) (nz := 102) (sh := xshD) (M := (xup (xup N25 90 3 w3) 90 3 1)) rfl (Nat.le_of_ble_eq_true rfl) ?_
  show P0 201 (0, [some (.ref 56), none, none, none, none, none], [], 102, xshD, (xup (xup N25 90 3 w3) 90 3 1)) _
  refine (xF_con xF_B (xsim_blind (xsim_blind g25 xEP 3 w3) xEP 3 1)).imp (fun r hr => ?_)
  obtain ⟨N26, rfl, g26⟩ := hr
  refine ⟨rfl, ?_⟩
  show P0 204 (42, [some (.ref 56), some (.int (-1)), some (.int 3), some (.int w3), some (.int 1), some (.int (-1))], [.int (-1)], 102, xshD, N26) _
  refine P0.go (k := 9) (s' := (65, [some (.ref 56), some (.int (-1)), some (.int 3), some (.int w3), some (.int 1), some (.int (-1))], [], 102, xshD, (xup N26 90 3 w3))) rfl ?_
  refine P0.go (k := 11) (s' := (39, [some (.ref 56), some (.int (-1)), some (.int 3), some (.int w3), some (.int 2), some (.int (-1))], [.ref 56], 102, xshD, (xup (xup N26 90 3 w3) 90 3 2))) rfl ?_
  refine P0.call (z := 201) (as := [.ref 56]) (pc := 42) (pl := [some (.ref 56), some (.int (-1)), some (.int 3), some (.int w3), some (.int 2), some (.int (-1))]) (st := []) (nz := 102) (sh := xshD) (M := (xup (xup N26 90 3 w3) 90 3 2)) rfl (Nat.le_of_ble_eq_true rfl) ?_
  show P0 201 (0, [some (.ref 56), none, none, none, none, none], [], 102, xshD, (xup (xup N26 90 3 w3) 90 3 2)) _
  refine (xF_con xF_B (xsim_blind (xsim_blind g26 xEP 3 w3) xEP 3 2)).imp (fun r hr => ?_)
  obtain ⟨N27, rfl, g27⟩ := hr
  refine ⟨rfl, ?_⟩
  show P0 204 (42, [some (.ref 56), some (.int (-1)), some (.int 3), some (.int w3), some (.int 2), some (.int (-1))], [.int (-1)], 102, xshD, N27) _
  refine P0.go (k := 9) (s' := (65, [some (.ref 56), some (.int (-1)), some (.int 3), some (.int w3), some (.int 2), some (.int (-1))], [], 102, xshD, (xup N27 90 3 w3))) rfl ?_
  refine P0.go (k := 11) (s' := (39, [some (.ref 56), some (.int (-1)), some (.int 3), some (.int w3), some (.int 3), some (.int (-1))], [.ref 56], 102, xshD, (xup (xup N27 90 3 w3) 90 3 3))) rfl ?_
  refine P0.call (z := 201) (as := [.ref 56]) (pc := 42) (pl := [some (.ref 56), some (.int (-1)), some (.int 3), some (.int w3), some (.int 3), some (.int (-1))]) (st := []) (nz := 102) (sh := xshD) (M := (xup (xup N27 90 3 w3) 90 3 3)) rfl (Nat.le_of_ble_eq_true rfl) ?_
  show P0 201 (0, [some (.ref 56), none, none, none, none, none], [], 102, xshD, (xup (xup N27 90 3 w3) 90 3 3)) _
  refine (xF_con xF_B (xsim_blind (xsim_blind g27 xEP 3 w3) xEP 3 3)).imp (fun r hr => ?_)
  obtain ⟨N28, rfl, g28⟩ := hr
  refine ⟨rfl, ?_⟩
  show P0 204 (42, [some (.ref 56), some (.int (-1)), some (.int 3), some (.int w3), some (.int 3), some (.int (-1))], [.int (-1)], 102, xshD, N28) _
  refine P0.go (k := 9) (s' := (65, [some (.ref 56), some (.int (-1)), some (.int 3), some (.int w3), some (.int 3), some (.int (-1))], [], 102, xshD, (xup N28 90 3 w3))) rfl ?_
  refine P0.go (k := 11) (s' := (39, [some (.ref 56), some (.int (-1)), some (.int 3), some (.int w3), some (.int 4), some (.int (-1))], [.ref 56], 102, xshD, (xup (xup N28 90 3 w3) 90 3 4))) rfl ?_
  refine P0.call (z := 201) (as := [.ref 56]) (pc := 42) (pl := [some (.ref 56), some (.int (-1)), some (.int 3), some (.int w3), some (.int 4), some (.int (-1))]) (st := []) (nz := 102) (sh := xshD) (M := (xup (xup N28 90 3 w3) 90 3 4)) rfl (Nat.le_of_ble_eq_true rfl) ?_
  show P0 201 (0, [some (.ref 56), none, none, none, none, none], [], 102, xshD, (xup (xup N28 90 3 w3) 90 3 4)) _
  refine (xF_con xF_B (xsim_blind (xsim_blind g28 xEP 3 w3) xEP 3 4)).imp (fun r hr => ?_)
  obtain ⟨N29, rfl, g29⟩ := hr
  refine ⟨rfl, ?_⟩
  show P0 204 (42, [some (.ref 56), some (.int (-1)), some (.int 3), some (.int w3), some (.int 4), some (.int (-1))], [.int (-1)], 102, xshD, N29) _
  refine P0.go (k := 9) (s' := (65, [some (.ref 56), some (.int (-1)), some (.int 3), some (.int w3), some (.int 4), some (.int (-1))], [], 102, xshD, (xup N29 90 3 w3))) rfl ?_
  refine P0.go (k := 11) (s' := (39, [some (.ref 56), some (.int (-1)), some (.int 3), some (.int w3), some (.int 5), some (.int (-1))], [.ref 56], 102, xshD, (xup (xup N29 90 3 w3) 90 3 5))) rfl ?_
  refine P0.call (z := 201) (as := [.ref 56]) (pc := 42) (pl := [some (.ref 56), some (.int (-1)), some (.int 3), some (.int w3), some (.int 5), some (.int (-1))]) (st := []) (nz := 102) (sh := xshD) (M := (xup (xup N29 90 3 w3) 90 3 5)) rfl (Nat.le_of_ble_eq_true rfl) ?_
  show P0 201 (0, [some (.ref 56), none, none, none, none, none], [], 102, xshD, (xup (xup N29 90 3 w3) 90 3 5)) _
  refine (xF_con xF_B (xsim_blind (xsim_blind g29 xEP 3 w3) xEP 3 5)).imp (fun r hr => ?_)
  obtain ⟨N30, rfl, g30⟩ := hr
  refine ⟨rfl, ?_⟩
  show P0 204 (42, [some (.ref 56), some (.int (-1)), some (.int 3), some (.int w3), some (.int 5), some (.int (-1))], [.int (-1)], 102, xshD, N30) _
  refine P0.go (k := 9) (s' := (65, [some (.ref 56), some (.int (-1)), some (.int 3), some (.int w3), some (.int 5), some (.int (-1))], [], 102, xshD, (xup N30 90 3 w3))) rfl ?_
  refine P0.go (k := 11) (s' := (39, [some (.ref 56), some (.int (-1)), some (.int 3), some (.int w3), some (.int 6), some (.int (-1))], [.ref 56], 102, xshD, (xup (xup N30 90 3 w3) 90 3 6))) rfl ?_
  refine P0.call (z := 201) (as := [.ref 56]) (pc := 42) (pl := [some (.ref 56), some (.int (-1)), some (.int 3), some (.int w3), some (.int 6), some (.int (-1))]) (st := []) (nz := 102) (sh := xshD) (M := (xup (xup N30 90 3 w3) 90 3 6)) rfl (Nat.le_of_ble_eq_true rfl) ?_
  show P0 201 (0, [some (.ref 56), none, none, none, none, none], [], 102, xshD, (xup (xup N30 90 3 w3) 90 3 6)) _
  refine (xF_con xF_B (xsim_blind (xsim_blind g30 xEP 3 w3) xEP 3 6)).imp (fun r hr => ?_)
  obtain ⟨N31, rfl, g31⟩ := hr
  refine ⟨rfl, ?_⟩
  show P0 204 (42, [some (.ref 56), some (.int (-1)), some (.int 3), some (.int w3), some (.int 6), some (.int (-1))], [.int (-1)], 102, xshD, N31) _
  refine P0.go (k := 9) (s' := (65, [some (.ref 56), some (.int (-1)), some (.int 3), some (.int w3), some (.int 6), some (.int (-1))], [], 102, xshD, (xup N31 90 3 w3))) rfl ?_
  refine P0.go (k := 11) (s' := (39, [some (.ref 56), some (.int (-1)), some (.int 3), some (.int w3), some (.int 7), some (.int (-1))], [.ref 56], 102, xshD, (xup (xup N31 90 3 w3) 90 3 7))) rfl ?_
  refine P0.call (z := 201) (as := [.ref 56]) (pc := 42) (pl := [some (.ref 56), some (.int (-1)), some (.int 3), some (.int w3), some (.int 7), some (.int (-1))]) (st := []) (nz := 102) (sh := xshD) (M := (xup (xup N31 90 3 w3) 90 3 7)) rfl (Nat.le_of_ble_eq_true rfl) ?_
  show P0 201 (0, [some (.ref 56), none, none, none, none, none], [], 102, xshD, (xup (xup N31 90 3 w3) 90 3 7)) _
  refine (xF_con xF_B (xsim_blind (xsim_blind g31 xEP 3 w3) xEP 3 7)).imp (fun r hr => ?_)
  obtain ⟨N32, rfl, g32⟩ := hr
  refine ⟨rfl, ?_⟩
  show P0 204 (42, [some (.ref 56), some (.int (-1)), some (.int 3), some (.int w3), some (.int 7), some (.int (-1))], [.int (-1)], 102, xshD, N32) _
  refine P0.go (k := 9) (s' := (65, [some (.ref 56), some (.int (-1)), some (.int 3), some (.int w3), some (.int 7), some (.int (-1))], [], 102, xshD, (xup N32 90 3 w3))) rfl ?_
  obtain ⟨w4, ew4⟩ : ∃ z : Int32, z = (xup N32 90 3 w3) 90 4 := ⟨_, rfl⟩
  refine P0.go (k := 26) (s' := (39, [some (.ref 56), some (.int (-1)), some (.int 4), some (.int ((xup N32 90 3 w3) 90 4)), some (.int 0), some (.int (-1))], [.ref 56], 102, xshD, (xup (xup N32 90 3 w3) 90 4 0))) rfl ?_
  rw [← ew4]
  refine P0.call (z := 201) (as := [.ref 56]) (pc := 42) (pl := [some (.ref 56), some (.int (-1)), some (.int 4), some (.int w4), some (.int 0), some (.int (-1))]) (st := []) (nz := 102) (sh := xshD) (M := (xup (xup N32 90 3 w3) 90 4 0)) rfl (Nat.le_of_ble_eq_true rfl) ?_
  show P0 201 (0, [some (.ref 56), none, none, none, none, none], [], 102, xshD, (xup (xup N32 90 3 w3) 90 4 0)) _
  refine (xF_con xF_B (xsim_blind (xsim_blind g32 xEP 3 w3) xEP 4 0)).imp (fun r hr => ?_)
  obtain ⟨N33, rfl, g33⟩ := hr
  refine ⟨rfl, ?_⟩
  show P0 204 (42, [some (.ref 56), some (.int (-1)), some (.int 4), some (.int w4), some (.int 0), some (.int (-1))], [.int (-1)], 102, xshD, N33) _
  refine P0.go (k := 9) (s' := (65, [some (.ref 56), some (.int (-1)), some (.int 4), some (.int w4), some (.int 0), some (.int (-1))], [], 102, xshD, (xup N33 90 4 w4))) rfl ?_
  refine P0.go (k := 11) (s' := (39, [some (.ref 56), some (.int (-1)), some (.int 4), some (.int w4), some (.int 1), some (.int (-1))], [.ref 56], 102, xshD, (xup (xup N33 90 4 w4) 90 4 1))) rfl ?_
  refine P0.call (z := 201) (as := [.ref 56]) (pc := 42) (pl := [some (.ref 56), some (.int (-1)), some (.int 4), some (.int w4), some (.int 1), some (.int (-1))]) (st := []) (nz := 102) (sh := xshD) (M := (xup (xup N33 90 4 w4) 90 4 1)) rfl (Nat.le_of_ble_eq_true rfl) ?_
  show P0 201 (0, [some (.ref 56), none, none, none, none, none], [], 102, xshD, (xup (xup N33 90 4 w4) 90 4 1)) _
  refine (xF_con xF_B (xsim_blind (xsim_blind g33 xEP 4 w4) xEP 4 1)).imp (fun r hr => ?_)
  obtain ⟨N34, rfl, g34⟩ := hr
  refine ⟨rfl, ?_⟩
  show P0 204 (42, [some (.ref 56), some (.int (-1)), some (.int 4), some (.int w4), some (.int 1), some (.int (-1))], [.int (-1)], 102, xshD, N34) _
  refine P0.go (k := 9) (s' := (65, [some (.ref 56), some (.int (-1)), some (.int 4), some (.int w4), some (.int 1), some (.int (-1))], [], 102, xshD, (xup N34 90 4 w4))) rfl ?_
  refine P0.go (k := 11) (s' := (39, [some (.ref 56), some (.int (-1)), some (.int 4), some (.int w4), some (.int 2), some (.int (-1))], [.ref 56], 102, xshD, (xup (xup N34 90 4 w4) 90 4 2))) rfl ?_
  refine P0.call (z := 201) (as := [.ref 56]) (pc := 42) (pl := [some (.ref 56), some (.int (-1)), some (.int 4), some (.int w4), some (.int 2), some (.int (-1))]) (st := []) (nz := 102) (sh := xshD) (M := (xup (xup N34 90 4 w4) 90 4 2)) rfl (Nat.le_of_ble_eq_true rfl) ?_
  show P0 201 (0, [some (.ref 56), none, none, none, none, none], [], 102, xshD, (xup (xup N34 90 4 w4) 90 4 2)) _
  refine (xF_con xF_B (xsim_blind (xsim_blind g34 xEP 4 w4) xEP 4 2)).imp (fun r hr => ?_)
  obtain ⟨N35, rfl, g35⟩ := hr
  refine ⟨rfl, ?_⟩
  show P0 204 (42, [some (.ref 56), some (.int (-1)), some (.int 4), some (.int w4), some (.int 2), some (.int (-1))], [.int (-1)], 102, xshD, N35) _
  refine P0.go (k := 9) (s' := (65, [some (.ref 56), some (.int (-1)), some (.int 4), some (.int w4), some (.int 2), some (.int (-1))], [], 102, xshD, (xup N35 90 4 w4))) rfl ?_
  refine P0.go (k := 11) (s' := (39, [some (.ref 56), some (.int (-1)), some (.int 4), some (.int w4), some (.int 3), some (.int (-1))], [.ref 56], 102, xshD, (xup (xup N35 90 4 w4) 90 4 3))) rfl ?_
  refine P0.call (z := 201) (as := [.ref 56]) (pc := 42) (pl := [some (.ref 56), some (.int (-1)), some (.int 4), some (.int w4), some (.int 3), some (.int (-1))]) (st := []) (nz := 102) (sh := xshD) (M := (xup (xup N35 90 4 w4) 90 4 3)) rfl (Nat.le_of_ble_eq_true rfl) ?_
  show P0 201 (0, [some (.ref 56), none, none, none, none, none], [], 102, xshD, (xup (xup N35 90 4 w4) 90 4 3)) _
  refine (xF_con xF_B (xsim_blind (xsim_blind g35 xEP 4 w4) xEP 4 3)).imp (fun r hr => ?_)
  obtain ⟨N36, rfl, g36⟩ := hr
  refine ⟨rfl, ?_⟩
  show P0 204 (42, [some (.ref 56), some (.int (-1)), some (.int 4), some (.int w4), some (.int 3), some (.int (-1))], [.int (-1)], 102, xshD, N36) _
  refine P0.go (k := 9) (s' := (65, [some (.ref 56), some (.int (-1)), some (.int 4), some (.int w4), some (.int 3), some (.int (-1))], [], 102, xshD, (xup N36 90 4 w4))) rfl ?_
  refine P0.go (k := 11) (s' := (39, [some (.ref 56), some (.int (-1)), some (.int 4), some (.int w4), some (.int 4), some (.int (-1))], [.ref 56], 102, xshD, (xup (xup N36 90 4 w4) 90 4 4))) rfl ?_
  refine P0.call (z := 201) (as := [.ref 56]) (pc := 42) (pl := [some (.ref 56), some (.int (-1)), some (.int 4), some (.int w4), some (.int 4), some (.int (-1))]) (st := []) (nz := 102) (sh := xshD) (M := (xup (xup N36 90 4 w4) 90 4 4)) rfl (Nat.le_of_ble_eq_true rfl) ?_
  show P0 201 (0, [some (.ref 56), none, none, none, none, none], [], 102, xshD, (xup (xup N36 90 4 w4) 90 4 4)) _
  refine (xF_con xF_B (xsim_blind (xsim_blind g36 xEP 4 w4) xEP 4 4)).imp (fun r hr => ?_)
  obtain ⟨N37, rfl, g37⟩ := hr
  refine ⟨rfl, ?_⟩
  show P0 204 (42, [some (.ref 56), some (.int (-1)), some (.int 4), some (.int w4), some (.int 4), some (.int (-1))], [.int (-1)], 102, xshD, N37) _
  refine P0.go (k := 9) (s' := (65, [some (.ref 56), some (.int (-1)), some (.int 4), some (.int w4), some (.int 4), some (.int (-1))], [], 102, xshD, (xup N37 90 4 w4))) rfl ?_
  refine P0.go (k := 11) (s' := (39, [some (.ref 56), some (.int (-1)), some (.int 4), some (.int w4), some (.int 5), some (.int (-1))], [.ref 56], 102, xshD, (xup (xup N37 90 4 w4) 90 4 5))) rfl ?_
  refine P0.call (z := 201) (as := [.ref 56]) (pc := 42) (pl := [some (.ref 56), some (.int (-1)), some (.int 4), some (.int w4), some (.int 5), some (.int (-1))]) (st := []) (nz := 102) (sh := xshD) (M := (xup (xup N37 90 4 w4) 90 4 5)) rfl (Nat.le_of_ble_eq_true rfl) ?_
  show P0 201 (0, [some (.ref 56), none, none, none, none, none], [], 102, xshD, (xup (xup N37 90 4 w4) 90 4 5)) _
  refine (xF_con xF_B (xsim_blind (xsim_blind g37 xEP 4 w4) xEP 4 5)).imp (fun r hr => ?_)
  obtain ⟨N38, rfl, g38⟩ := hr
  refine ⟨rfl, ?_⟩
  show P0 204 (42, [some (.ref 56), some (.int (-1)), some (.int 4), some (.int w4), some (.int 5), some (.int (-1))], [.int (-1)], 102, xshD, N38) _
  refine P0.go (k := 9) (s' := (65, [some (.ref 56), some (.int (-1)), some (.int 4), some (.int w4), some (.int 5), some (.int (-1))], [], 102, xshD, (xup N38 90 4 w4))) rfl ?_
  refine P0.go (k := 11) (s' := (39, [some (.ref 56), some (.int (-1)), some (.int 4), some (.int w4), some (.int 6), some (.int (-1))], [.ref 56], 102, xshD, (xup (xup N38 90 4 w4) 90 4 6))) rfl ?_
  refine P0.call (z := 201) (as := [.ref 56]) (pc := 42) (pl := [some (.ref 56), some (.int (-1)), some (.int 4), some (.int w4), some (.int 6), some (.int (-1))]) (st := []) (nz := 102) (sh := xshD) (M := (xup (xup N38 90 4 w4) 90 4 6)) rfl (Nat.le_of_ble_eq_true rfl) ?_
  show P0 201 (0, [some (.ref 56), none, none, none, none, none], [], 102, xshD, (xup (xup N38 90 4 w4) 90 4 6)) _
  refine (xF_con xF_B (xsim_blind (xsim_blind g38 xEP 4 w4) xEP 4 6)).imp (fun r hr => ?_)
  obtain ⟨N39, rfl, g39⟩ := hr
  refine ⟨rfl, ?_⟩
  show P0 204 (42, [some (.ref 56), some (.int (-1)), some (.int 4), some (.int w4), some (.int 6), some (.int (-1))], [.int (-1)], 102, xshD, N39) _
  refine P0.go (k := 9) (s' := (65, [some (.ref 56), some (.int (-1)), some (.int 4), some (.int w4), some (.int 6), some (.int (-1))], [], 102, xshD, (xup N39 90 4 w4))) rfl ?_
  refine P0.go (k := 11) (s' := (39, [some (.ref 56), some (.int (-1)), some (.int 4), some (.int w4), some (.int 7), some (.int (-1))], [.ref 56], 102, xshD, (xup (xup N39 90 4 w4) 90 4 7))) rfl ?_
  refine P0.call (z := 201) (as := [.ref 56]) (pc := 42) (pl := [some (.ref 56), some (.int (-1)), some (.int 4), some (.int w4), some (.int 7), some (.int (-1))]) (st := []) (nz := 102) (sh := xshD) (M := (xup (xup N39 90 4 w4) 90 4 7)) rfl (Nat.le_of_ble_eq_true rfl) ?_
  show P0 201 (0, [some (.ref 56), none, none, none, none, none], [], 102, xshD, (xup (xup N39 90 4 w4) 90 4 7)) _
  refine (xF_con xF_B (xsim_blind (xsim_blind g39 xEP 4 w4) xEP 4 7)).imp (fun r hr => ?_)
  obtain ⟨N40, rfl, g40⟩ := hr
  refine ⟨rfl, ?_⟩
  show P0 204 (42, [some (.ref 56), some (.int (-1)), some (.int 4), some (.int w4), some (.int 7), some (.int (-1))], [.int (-1)], 102, xshD, N40) _
  refine P0.go (k := 9) (s' := (65, [some (.ref 56), some (.int (-1)), some (.int 4), some (.int w4), some (.int 7), some (.int (-1))], [], 102, xshD, (xup N40 90 4 w4))) rfl ?_
  obtain ⟨w5, ew5⟩ : ∃ z : Int32, z = (xup N40 90 4 w4) 90 5 := ⟨_, rfl⟩
  refine P0.go (k := 26) (s' := (39, [some (.ref 56), some (.int (-1)), some (.int 5), some (.int ((xup N40 90 4 w4) 90 5)), some (.int 0), some (.int (-1))], [.ref 56], 102, xshD, (xup (xup N40 90 4 w4) 90 5 0))) rfl ?_
  rw [← ew5]
  refine P0.call (z := 201) (as := [.ref 56]) (pc := 42) (pl := [some (.ref 56), some (.int (-1)), some (.int 5), some (.int w5), some (.int 0), some (.int (-1))]) (st := []) (nz := 102) (sh := xshD) (M := (xup (xup N40 90 4 w4) 90 5 0)) rfl (Nat.le_of_ble_eq_true rfl) ?_
  show P0 201 (0, [some (.ref 56), none, none, none, none, none], [], 102, xshD, (xup (xup N40 90 4 w4) 90 5 0)) _
  refine (xF_con xF_B (xsim_blind (xsim_blind g40 xEP 4 w4) xEP 5 0)).imp (fun r hr => ?_)
  obtain ⟨N41, rfl, g41⟩ := hr
  refine ⟨rfl, ?_⟩
  show P0 204 (42, [some (.ref 56), some (.int (-1)), some (.int 5), some (.int w5), some (.int 0), some (.int (-1))], [.int (-1)], 102, xshD, N41) _
  refine P0.go (k := 9) (s' := (65, [some (.ref 56), some (.int (-1)), some (.int 5), some (.int w5), some (.int 0), some (.int (-1))], [], 102, xshD, (xup N41 90 5 w5))) rfl ?_
  refine P0.go (k := 11) (s' := (39, [some (.ref 56), some (.int (-1)), some (.int 5), some (.int w5), some (.int 1), some (.int (-1))], [.ref 56], 102, xshD, (xup (xup N41 90 5 w5) 90 5 1))) rfl ?_
  refine P0.call (z := 201) (as := [.ref 56]) (pc := 42) (pl := [some (.ref 56), some (.int (-1)), some (.int 5), some (.int w5), some (.int 1), some (.int (-1))]) (st := []) (nz := 102) (sh := xshD) (M := (xup (xup N41 90 5 w5) 90 5 1)) rfl (Nat.le_of_ble_eq_true rfl) ?_
  show P0 201 (0, [some (.ref 56), none, none, none, none, none], [], 102, xshD, (xup (xup N41 90 5 w5) 90 5 1)) _
  refine (xF_con xF_B (xsim_blind (xsim_blind g41 xEP 5 w5) xEP 5 1)).imp (fun r hr => ?_)
  obtain ⟨N42, rfl, g42⟩ := hr
  refine ⟨rfl, ?_⟩
  show P0 204 (42, [some (.ref 56), some (.int (-1)), some (.int 5), some (.int w5), some (.int 1), some (.int (-1))], [.int (-1)], 102, xshD, N42) _
  refine P0.go (k := 9) (s' := (65, [some (.ref 56), some (.int (-1)), some (.int 5), some (.int w5), some (.int 1), some (.int (-1))], [], 102, xshD, (xup N42 90 5 w5))) rfl ?_
  refine P0.go (k := 11) (s' := (39, [some (.ref 56), some (.int (-1)), some (.int 5), some (.int w5), some (.int 2), some (.int (-1))], [.ref 56], 102, xshD, (xup (xup N42 90 5 w5) 90 5 2))) rfl ?_
  refine P0.call (z := 201) (as := [.ref 56]) (pc := 42) (pl := [some (.ref 56), some (.int (-1)), some (.int 5), some (.int w5), some (.int 2), some (.int (-1))]) (st := []) (nz := 102) (sh := xshD) (M := (xup (xup N42 90 5 w5) 90 5 2)) rfl (Nat.le_of_ble_eq_true rfl) ?_
  show P0 201 (0, [some (.ref 56), none, none, none, none, none], [], 102, xshD, (xup (xup N42 90 5 w5) 90 5 2)) _
  refine (xF_con xF_B (xsim_blind (xsim_blind g42 xEP 5 w5) xEP 5 2)).imp (fun r hr => ?_)
  obtain ⟨N43, rfl, g43⟩ := hr
  refine ⟨rfl, ?_⟩
  show P0 204 (42, [some (.ref 56), some (.int (-1)), some (.int 5), some (.int w5), some (.int 2), some (.int (-1))], [.int (-1)], 102, xshD, N43) _
  refine P0.go (k := 9) (s' := (65, [some (.ref 56), some (.int (-1)), some (.int 5), some (.int w5), some (.int 2), some (.int (-1))], [], 102, xshD, (xup N43 90 5 w5))) rfl ?_
  refine P0.go (k := 11) (s' := (39, [some (.ref 56), some (.int (-1)), some (.int 5), some (.int w5), some (.int 3), some (.int (-1))], [.ref 56], 102, xshD, (xup (xup N43 90 5 w5) 90 5 3))) rfl ?_
  refine P0.call (z := 201) (as := [.ref 56]) (pc := 42) (pl := [some (.ref 56), some (.int (-1)), some (.int 5), some (.int w5), some (.int 3), some (.int (-1))]) (st := []) (nz := 102) (sh := xshD) (M := (xup (xup N43 90 5 w5) 90 5 3)) rfl (Nat.le_of_ble_eq_true rfl) ?_
  show P0 201 (0, [some (.ref 56), none, none, none, none, none], [], 102, xshD, (xup (xup N43 90 5 w5) 90 5 3)) _
  refine (xF_con xF_B (xsim_blind (xsim_blind g43 xEP 5 w5) xEP 5 3)).imp (fun r hr => ?_)
  obtain ⟨N44, rfl, g44⟩ := hr
  refine ⟨rfl, ?_⟩
  show P0 204 (42, [some (.ref 56), some (.int (-1)), some (.int 5), some (.int w5), some (.int 3), some (.int (-1))], [.int (-1)], 102, xshD, N44) _
  refine P0.go (k := 9) (s' := (65, [some (.ref 56), some (.int (-1)), some (.int 5), some (.int w5), some (.int 3), some (.int (-1))], [], 102, xshD, (xup N44 90 5 w5))) rfl ?_
  refine P0.go (k := 11) (s' := (39, [some (.ref 56), some (.int (-1)), some (.int 5), some (.int w5), some (.int 4), some (.int (-1))], [.ref 56], 102, xshD, (xup (xup N44 90 5 w5) 90 5 4))) rfl ?_
  refine P0.call (z := 201) (as := [.ref 56]) (pc := 42) (pl := [some (.ref 56), some (.int (-1)), some (.int 5), some (.int w5), some (.int 4), some (.int (-1))]) (st := []) (nz := 102) (sh := xshD) (M := (xup (xup N44 90 5 w5) 90 5 4)) rfl (Nat.le_of_ble_eq_true rfl) ?_
  show P0 201 (0, [some (.ref 56), none, none, none, none, none], [], 102, xshD, (xup (xup N44 90 5 w5) 90 5 4)) _
  refine (xF_con xF_B (xsim_blind (xsim_blind g44 xEP 5 w5) xEP 5 4)).imp (fun r hr => ?_)
  obtain ⟨N45, rfl, g45⟩ := hr
  refine ⟨rfl, ?_⟩
  show P0 204 (42, [some (.ref 56), some (.int (-1)), some (.int 5), some (.int w5), some (.int 4), some (.int (-1))], [.int (-1)], 102, xshD, N45) _
  refine P0.go (k := 9) (s' := (65, [some (.ref 56), some (.int (-1)), some (.int 5), some (.int w5), some (.int 4), some (.int (-1))], [], 102, xshD, (xup N45 90 5 w5))) rfl ?_
  refine P0.go (k := 11) (s' := (39, [some (.ref 56), some (.int (-1)), some (.int 5), some (.int w5), some (.int 5), some (.int (-1))], [.ref 56], 102, xshD, (xup (xup N45 90 5 w5) 90 5 5))) rfl ?_
  refine P0.call (z := 201) (as := [.ref 56]) (pc := 42) (pl := [some (.ref 56), some (.int (-1)), some (.int 5), some (.int w5), some (.int 5), some (.int (-1))]) (st := []) (nz := 102) (sh := xshD) (M := (xup (xup N45 90 5 w5) 90 5 5)) rfl (Nat.le_of_ble_eq_true rfl) ?_
  show P0 201 (0, [some (.ref 56), none, none, none, none, none], [], 102, xshD, (xup (xup N45 90 5 w5) 90 5 5)) _
  refine (xF_con xF_B (xsim_blind (xsim_blind g45 xEP 5 w5) xEP 5 5)).imp (fun r hr => ?_)
  obtain ⟨N46, rfl, g46⟩ := hr
  refine ⟨rfl, ?_⟩
  show P0 204 (42, [some (.ref 56), some (.int (-1)), some (.int 5), some (.int w5), some (.int 5), some (.int (-1))], [.int (-1)], 102, xshD, N46) _
  refine P0.go (k := 9) (s' := (65, [some (.ref 56), some (.int (-1)), some (.int 5), some (.int w5), some (.int 5), some (.int (-1))], [], 102, xshD, (xup N46 90 5 w5))) rfl ?_
  refine P0.go (k := 11) (s' := (39, [some (.ref 56), some (.int (-1)), some (.int 5), some (.int w5), some (.int 6), some (.int (-1))], [.ref 56], 102, xshD, (xup (xup N46 90 5 w5) 90 5 6))) rfl ?_
  refine P0.call (z := 201) (as := [.ref 56]) (pc := 42) (pl := [some (.ref 56), some (.int (-1)), some (.int 5), some (.int w5), some (.int 6), some (.int (-1))]) (st := []) (nz := 102) (sh := xshD) (M := (xup (xup N46 90 5 w5) 90 5 6)) rfl (Nat.le_of_ble_eq_true rfl) ?_
  show P0 201 (0, [some (.ref 56), none, none, none, none, none], [], 102, xshD, (xup (xup N46 90 5 w5) 90 5 6)) _
  refine (xF_con xF_B (xsim_blind (xsim_blind g46 xEP 5 w5) xEP 5 6)).imp (fun r hr => ?_)
  obtain ⟨N47, rfl, g47⟩ := hr
  refine ⟨rfl, ?_⟩
  show P0 204 (42, [some (.ref 56), some (.int (-1)), some (.int 5), some (.int w5), some (.int 6), some (.int (-1))], [.int (-1)], 102, xshD, N47) _
  refine P0.go (k := 9) (s' := (65, [some (.ref 56), some (.int (-1)), some (.int 5), some (.int w5), some (.int 6), some (.int (-1))], [], 102, xshD, (xup N47 90 5 w5))) rfl ?_
  refine P0.go (k := 11) (s' := (39, [some (.ref 56), some (.int (-1)), some (.int 5), some (.int w5), some (.int 7), some (.int (-1))], [.ref 56], 102, xshD, (xup (xup N47 90 5 w5) 90 5 7))) rfl ?_
  refine P0.call (z := 201) (as := [.ref 56]) (pc := 42) (pl := [some (.ref 56), some (.int (-1)), some (.int 5), some (.int w5), some (.int 7), some (.int (-1))]) (st := []) (nz := 102) (sh := xshD) (M := (xup (xup N47 90 5 w5) 90 5 7)) rfl (Nat.le_of_ble_eq_true rfl) ?_
  show P0 201 (0, [some (.ref 56), none, none, none, none, none], [], 102, xshD, (xup (xup N47 90 5 w5) 90 5 7)) _
  refine (xF_con xF_B (xsim_blind (xsim_blind g47 xEP 5 w5) xEP 5 7)).imp (fun r hr => ?_)
  obtain ⟨N48, rfl, g48⟩ := hr
  refine ⟨rfl, ?_⟩
  show P0 204 (42, [some (.ref 56), some (.int (-1)), some (.int 5), some (.int w5), some (.int 7), some (.int (-1))], [.int (-1)], 102, xshD, N48) _
  refine P0.go (k := 9) (s' := (65, [some (.ref 56), some (.int (-1)), some (.int 5), some (.int w5), some (.int 7), some (.int (-1))], [], 102, xshD, (xup N48 90 5 w5))) rfl ?_
  obtain ⟨w6, ew6⟩ : ∃ z : Int32, z = (xup N48 90 5 w5) 90 6 := ⟨_, rfl⟩
  refine P0.go (k := 26) (s' := (39, [some (.ref 56), some (.int (-1)), some (.int 6), some (.int ((xup N48 90 5 w5) 90 6)), some (.int 0), some (.int (-1))], [.ref 56], 102, xshD, (xup (xup N48 90 5 w5) 90 6 0))) rfl ?_
  rw [← ew6]
  refine P0.call (z := 201) (as := [.ref 56]) (pc := 42) (pl := [some (.ref 56), some (.int (-1)), some (.int 6), some (.int w6), some (.int 0), some (.int (-1))]) (st := []) (nz := 102) (sh := xshD) (M := (xup (xup N48 90 5 w5) 90 6 0)) rfl (Nat.le_of_ble_eq_true rfl) ?_
  show P0 201 (0, [some (.ref 56), none, none, none, none, none], [], 102, xshD, (xup (xup N48 90 5 w5) 90 6 0)) _
  refine (xF_con xF_B (xsim_blind (xsim_blind g48 xEP 5 w5) xEP 6 0)).imp (fun r hr => ?_)
  obtain ⟨N49, rfl, g49⟩ := hr
  refine ⟨rfl, ?_⟩
  show P0 204 (42, [some (.ref 56), some (.int (-1)), some (.int 6), some (.int w6), some (.int 0), some (.int (-1))], [.int (-1)], 102, xshD, N49) _
  refine P0.go (k := 9) (s' := (65, [some (.ref 56), some (.int (-1)), some (.int 6), some (.int w6), some (.int 0), some (.int (-1))], [], 102, xshD, (xup N49 90 6 w6))) rfl ?_
  refine P0.go (k := 11) (s' := (39, [some (.ref 56), some (.int (-1)), some (.int 6), some (.int w6), some (.int 1), some (.int (-1))], [.ref 56], 102, xshD, (xup (xup N49 90 6 w6) 90 6 1))) rfl ?_
  refine P0.call (z := 201) (as := [.ref 56]) (pc := 42) (pl := [some (.ref 56), some (.int (-1)), some (.int 6), some (.int w6), some (.int 1), some (.int (-1))]) (st := []) (nz := 102) (sh := xshD) (M := (xup (xup N49 90 6 w6) 90 6 1)) rfl (Nat.le_of_ble_eq_true rfl) ?_
  show P0 201 (0, [some (.ref 56), none, none, none, none, none], [], 102, xshD, (xup (xup N49 90 6 w6) 90 6 1)) _
  refine (xF_con xF_B (xsim_blind (xsim_blind g49 xEP 6 w6) xEP 6 1)).imp (fun r hr => ?_)
  obtain ⟨N50, rfl, g50⟩ := hr
  refine ⟨rfl, ?_⟩
  show P0 204 (42, [some (.ref 56), some (.int (-1)), some (.int 6), some (.int w6), some (.int 1), some (.int (-1))], [.int (-1)], 102, xshD, N50) _
  refine P0.go (k := 9) (s' := (65, [some (.ref 56), some (.int (-1)), some (.int 6), some (.int w6), some (.int 1), some (.int (-1))], [], 102, xshD, (xup N50 90 6 w6))) rfl ?_
  refine P0.go (k := 11) (s' := (39, [some (.ref 56), some (.int (-1)), some (.int 6), some (.int w6), some (.int 2), some (.int (-1))], [.ref 56], 102, xshD, (xup (xup N50 90 6 w6) 90 6 2))) rfl ?_
  refine P0.call (z := 201) (as := [.ref 56]) (pc := 42) (pl := [some (.ref 56), some (.int (-1)), some (.int 6), some (.int w6), some (.int 2), some (.int (-1))]) (st := []) (nz := 102) (sh := xshD) (M := (xup (xup N50 90 6 w6) 90 6 2)) rfl (Nat.le_of_ble_eq_true rfl) ?_
  show P0 201 (0, [some (.ref 56), none, none, none, none, none], [], 102, xshD, (xup (xup N50 90 6 w6) 90 6 2)) _
  refine (xF_con xF_B (xsim_blind (xsim_blind g50 xEP 6 w6) xEP 6 2)).imp (fun r hr => ?_)
  obtain ⟨N51, rfl, g51⟩ := hr
  refine ⟨rfl, ?_⟩
  show P0 204 (42, [some (.ref 56), some (.int (-1)), some (.int 6), some (.int w6), some (.int 2), some (.int (-1))], [.int (-1)], 102, xshD, N51) _
  refine P0.go (k := 9) (s' := (65, [some (.ref 56), some (.int (-1)), some (.int 6), some (.int w6), some (.int 2), some (.int (-1))], [], 102, xshD, (xup N51 90 6 w6))) rfl ?_
  refine P0.go (k := 11) (s' := (39, [some (.ref 56), some (.int (-1)), some (.int 6), some (.int w6), some (.int 3), some (.int (-1))], [.ref 56], 102, xshD, (xup (xup N51 90 6 w6) 90 6 3))) rfl ?_
  refine P0.call (z := 201) (as := [.ref 56]) (pc := 42) (pl := [some (.ref 56), some (.int (-1)), some (.int 6), some (.int w6), some (.int 3), some (.int (-1))]) (st := []) (nz := 102) (sh := xshD) (M := (xup (xup N51 90 6 w6) 90 6 3)) rfl (Nat.le_of_ble_eq_true rfl) ?_
  show P0 201 (0, [some (.ref 56), none, none, none, none, none], [], 102, xshD, (xup (xup N51 90 6 w6) 90 6 3)) _
  refine (xF_con xF_B (xsim_blind (xsim_blind g51 xEP 6 w6) xEP 6 3)).imp (fun r hr => ?_)
  obtain ⟨N52, rfl, g52⟩ := hr
  refine ⟨rfl, ?_⟩
  show P0 204 (42, [some (.ref 56), some (.int (-1)), some (.int 6), some (.int w6), some (.int 3), some (.int (-1))], [.int (-1)], 102, xshD, N52) _
  refine P0.go (k := 9) (s' := (65, [some (.ref 56), some (.int (-1)), some (.int 6), some (.int w6), some (.int 3), some (.int (-1))], [], 102, xshD, (xup N52 90 6 w6))) rfl ?_
  refine P0.go (k := 11) (s' := (39, [some (.ref 56), some (.int (-1)), some (.int 6), some (.int w6), some (.int 4), some (.int (-1))], [.ref 56], 102, xshD, (xup (xup N52 90 6 w6) 90 6 4))) rfl ?_
  refine P0.call (z := 201) (as := [.ref 56]) (pc := 42) (pl := [some (.ref 56), some (.int (-1)), some (.int 6), some (.int w6), some (.int 4), some (.int (-1))]) (st := []) (nz := 102) (sh := xshD) (M := (xup (xup N52 90 6 w6) 90 6 4)) rfl (Nat.le_of_ble_eq_true rfl) ?_
  show P0 201 (0, [some (.ref 56), none, none, none, none, none], [], 102, xshD, (xup (xup N52 90 6 w6) 90 6 4)) _
  refine (xF_con xF_B (xsim_blind (xsim_blind g52 xEP 6 w6) xEP 6 4)).imp (fun r hr => ?_)
  obtain ⟨N53, rfl, g53⟩ := hr
  refine ⟨rfl, ?_⟩
  show P0 204 (42, [some (.ref 56), some (.int (-1)), some (.int 6), some (.int w6), some (.int 4), some (.int (-1))], [.int (-1)], 102, xshD, N53) _
  refine P0.go (k := 9) (s' := (65, [some (.ref 56), some (.int (-1)), some (.int 6), some (.int w6), some (.int 4), some (.int (-1))], [], 102, xshD, (xup N53 90 6 w6))) rfl ?_
  refine P0.go (k := 11) (s' := (39, [some (.ref 56), some (.int (-1)), some (.int 6), some (.int w6), some (.int 5), some (.int (-1))], [.ref 56], 102, xshD, (xup (xup N53 90 6 w6) 90 6 5))) rfl ?_
  refine P0.call (z := 201) (as := [.ref 56]) (pc := 42) (pl := [some (.ref 56), some (.int (-1)), some (.int 6), some (.int w6), some (.int 5), some (.int (-1))]) (st := []) (nz := 102) (sh := xshD) (M := (xup (xup N53 90 6 w6) 90 6 5)) rfl (Nat.le_of_ble_eq_true rfl) ?_
  show P0 201 (0, [some (.ref 56), none, none, none, none, none], [], 102, xshD, (xup (xup N53 90 6 w6) 90 6 5)) _
  refine (xF_con xF_B (xsim_blind (xsim_blind g53 xEP 6 w6) xEP 6 5)).imp (fun r hr => ?_)
  obtain ⟨N54, rfl, g54⟩ := hr
  refine ⟨rfl, ?_⟩
  show P0 204 (42, [some (.ref 56), some (.int (-1)), some (.int 6), some (.int w6), some (.int 5), some (.int (-1))], [.int (-1)], 102, xshD, N54) _
  refine P0.go (k := 9) (s' := (65, [some (.ref 56), some (.int (-1)), some (.int 6), some (.int w6), some (.int 5), some (.int (-1))], [], 102, xshD, (xup N54 90 6 w6))) rfl ?_
  refine P0.go (k := 11) (s' := (39, [some (.ref 56), some (.int (-1)), some (.int 6), some (.int w6), some (.int 6), some (.int (-1))], [.ref 56], 102, xshD, (xup (xup N54 90 6 w6) 90 6 6))) rfl ?_
  refine P0.call (z := 201) (as := [.ref 56]) (pc := 42) (pl := [some (.ref 56), some (.int (-1)), some (.int 6), some (.int w6), some (.int 6), some (.int (-1))]) (st := []) (nz := 102) (sh := xshD) (M := (xup (xup N54 90 6 w6) 90 6 6)) rfl (Nat.le_of_ble_eq_true rfl) ?_
  show P0 201 (0, [some (.ref 56), none, none, none, none, none], [], 102, xshD, (xup (xup N54 90 6 w6) 90 6 6)) _
  refine (xF_con xF_B (xsim_blind (xsim_blind g54 xEP 6 w6) xEP 6 6)).imp (fun r hr => ?_)
  obtain ⟨N55, rfl, g55⟩ := hr
  refine ⟨rfl, ?_⟩
  show P0 204 (42, [some (.ref 56), some (.int (-1)), some (.int 6), some (.int w6), some (.int 6), some (.int (-1))], [.int (-1)], 102, xshD, N55) _
  refine P0.go (k := 9) (s' := (65, [some (.ref 56), some (.int (-1)), some (.int 6), some (.int w6), some (.int 6), some (.int (-1))], [], 102, xshD, (xup N55 90 6 w6))) rfl ?_
  refine P0.go (k := 11) (s' := (39, [some (.ref 56), some (.int (-1)), some (.int 6), some (.int w6), some (.int 7), some (.int (-1))], [.ref 56], 102, xshD, (xup (xup N55 90 6 w6) 90 6 7))) rfl ?_
  refine P0.call (z := 201) (as := [.ref 56]) (pc := 42) (pl := [some (.ref 56), some (.int (-1)), some (.int 6), some (.int w6), some (.int 7), some (.int (-1))]) (st := []) (nz := 102) (sh := xshD) (M := (xup (xup N55 90 6 w6) 90 6 7)) rfl (Nat.le_of_ble_eq_true rfl) ?_
  show P0 201 (0, [some (.ref 56), none, none, none, none, none], [], 102, xshD, (xup (xup N55 90 6 w6) 90 6 7)) _
  refine (xF_con xF_B (xsim_blind (xsim_blind g55 xEP 6 w6) xEP 6 7)).imp (fun r hr => ?_)
  obtain ⟨N56, rfl, g56⟩ := hr
  refine ⟨rfl, ?_⟩
  show P0 204 (42, [some (.ref 56), some (.int (-1)), some (.int 6), some (.int w6), some (.int 7), some (.int (-1))], [.int (-1)], 102, xshD, N56) _
  refine P0.go (k := 9) (s' := (65, [some (.ref 56), some (.int (-1)), some (.int 6), some (.int w6), some (.int 7), some (.int (-1))], [], 102, xshD, (xup N56 90 6 w6))) rfl ?_
  obtain ⟨w7, ew7⟩ : ∃ z : Int32, z = (xup N56 90 6 w6) 90 7 := ⟨_, rfl⟩
  refine P0.go (k := 26) (s' := (39, [some (.ref 56), some (.int (-1)), some (.int 7), some (.int ((xup N56 90 6 w6) 90 7)), some (.int 0), some (.int (-1))], [.ref 56], 102, xshD, (xup (xup N56 90 6 w6) 90 7 0))) rfl ?_
  rw [← ew7]
  refine P0.call (z := 201) (as := [.ref 56]) (pc := 42) (pl := [some (.ref 56), some (.int (-1)), some (.int 7), some (.int w7), some (.int 0), some (.int (-1))]) (st := []) (nz := 102) (sh := xshD) (M := (xup (xup N56 90 6 w6) 90 7 0)) rfl (Nat.le_of_ble_eq_true rfl) ?_
  show P0 201 (0, [some (.ref 56), none, none, none, none, none], [], 102, xshD, (xup (xup N56 90 6 w6) 90 7 0)) _
  refine (xF_con xF_B (xsim_blind (xsim_blind g56 xEP 6 w6) xEP 7 0)).imp (fun r hr => ?_)
  obtain ⟨N57, rfl, g57⟩ := hr
  refine ⟨rfl, ?_⟩
  show P0 204 (42, [some (.ref 56), some (.int (-1)), some (.int 7), some (.int w7), some (.int 0), some (.int (-1))], [.int (-1)], 102, xshD, N57) _
  refine P0.go (k := 9) (s' := (65, [some (.ref 56), some (.int (-1)), some (.int 7), some (.int w7), some (.int 0), some (.int (-1))], [], 102, xshD, (xup N57 90 7 w7))) rfl ?_
  refine P0.go (k := 11) (s' := (39, [some (.ref 56), some (.int (-1)), some (.int 7), some (.int w7), some (.int 1), some (.int (-1))], [.ref 56], 102, xshD, (xup (xup N57 90 7 w7) 90 7 1))) rfl ?_
  refine P0.call (z := 201) (as := [.ref 56]) (pc := 42) (pl := [some (.ref 56), some (.int (-1)), some (.int 7), some (.int w7), some (.int 1), some (.int (-1))]) (st := []) (nz := 102) (sh := xshD) (M := (xup (xup N57 90 7 w7) 90 7 1)) rfl (Nat.le_of_ble_eq_true rfl) ?_
  show P0 201 (0, [some (.ref 56), none, none, none, none, none], [], 102, xshD, (xup (xup N57 90 7 w7) 90 7 1)) _
  refine (xF_con xF_B (xsim_blind (xsim_blind g57 xEP 7 w7) xEP 7 1)).imp (fun r hr => ?_)
  obtain ⟨N58, rfl, g58⟩ := hr
  refine ⟨rfl, ?_⟩
  show P0 204 (42, [some (.ref 56), some (.int (-1)), some (.int 7), some (.int w7), some (.int 1), some (.int (-1))], [.int (-1)], 102, xshD, N58) _
  refine P0.go (k := 9) (s' := (65, [some (.ref 56), some (.int (-1)), some (.int 7), some (.int w7), some (.int 1), some (.int (-1))], [], 102, xshD, (xup N58 90 7 w7))) rfl ?_
  refine P0.go (k := 11) (s' := (39, [some (.ref 56), some (.int (-1)), some (.int 7), some (.int w7), some (.int 2), some (.int (-1))], [.ref 56], 102, xshD, (xup (xup N58 90 7 w7) 90 7 2))) rfl ?_
  refine P0.call (z := 201) (as := [.ref 56]) (pc := 42) (pl := [some (.ref 56), some (.int (-1)), some (.int 7), some (.int w7), some (.int 2), some (.int (-1))]) (st := []) (nz := 102) (sh := xshD) (M := (xup (xup N58 90 7 w7) 90 7 2)) rfl (Nat.le_of_ble_eq_true rfl) ?_
  show P0 201 (0, [some (.ref 56), none, none, none, none, none], [], 102, xshD, (xup (xup N58 90 7 w7) 90 7 2)) _
  refine (xF_con xF_B (xsim_blind (xsim_blind g58 xEP 7 w7) xEP 7 2)).imp (fun r hr => ?_)
  obtain ⟨N59, rfl, g59⟩ := hr
  refine ⟨rfl, ?_⟩
  show P0 204 (42, [some (.ref 56), some (.int (-1)), some (.int 7), some (.int w7), some (.int 2), some (.int (-1))], [.int (-1)], 102, xshD, N59) _
  refine P0.go (k := 9) (s' := (65, [some (.ref 56), some (.int (-1)), some (.int 7), some (.int w7), some (.int 2), some (.int (-1))], [], 102, xshD, (xup N59 90 7 w7))) rfl ?_
  refine P0.go (k := 11) (s' := (39, [some (.ref 56), some (.int (-1)), some (.int 7), some (.int w7), some (.int 3), some (.int (-1))], [.ref 56], 102, xshD, (xup (xup N59 90 7 w7) 90 7 3))) rfl ?_
  refine P0.call (z := 201) (as := [.ref 56]) (pc := 42) (pl := [some (.ref 56), some (.int (-1)), some (.int 7), some (.int w7), some (.int 3), some (.int (-1))]) (st := []) (nz := 102) (sh := xshD) (M := (xup (xup N59 90 7 w7) 90 7 3)) rfl (Nat.le_of_ble_eq_true rfl) ?_
  show P0 201 (0, [some (.ref 56), none, none, none, none, none], [], 102, xshD, (xup (xup N59 90 7 w7) 90 7 3)) _
  refine (xF_con xF_B (xsim_blind (xsim_blind g59 xEP 7 w7) xEP 7 3)).imp (fun r hr => ?_)
  obtain ⟨N60, rfl, g60⟩ := hr
  refine ⟨rfl, ?_⟩
  show P0 204 (42, [some (.ref 56), some (.int (-1)), some (.int 7), some (.int w7), some (.int 3), some (.int (-1))], [.int (-1)], 102, xshD, N60) _
  refine P0.go (k := 9) (s' := (65, [some (.ref 56), some (.int (-1)), some (.int 7), some (.int w7), some (.int 3), some (.int (-1))], [], 102, xshD, (xup N60 90 7 w7))) rfl ?_
  refine P0.go (k := 11) (s' := (39, [some (.ref 56), some (.int (-1)), some (.int 7), some (.int w7), some (.int 4), some (.int (-1))], [.ref 56], 102, xshD, (xup (xup N60 90 7 w7) 90 7 4))) rfl ?_
  refine P0.call (z := 201) (as := [.ref 56]) (pc := 42) (pl := [some (.ref 56), some (.int (-1)), some (.int 7), some (.int w7), some (.int 4), some (.int (-1))]) (st := []) (nz := 102) (sh := xshD) (M := (xup (xup N60 90 7 w7) 90 7 4)) rfl (Nat.le_of_ble_eq_true rfl) ?_
  show P0 201 (0, [some (.ref 56), none, none, none, none, none], [], 102, xshD, (xup (xup N60 90 7 w7) 90 7 4)) _
  refine (xF_con xF_B (xsim_blind (xsim_blind g60 xEP 7 w7) xEP 7 4)).imp (fun r hr => ?_)
  obtain ⟨N61, rfl, g61⟩ := hr
  refine ⟨rfl, ?_⟩
  show P0 204 (42, [some (.ref 56), some (.int (-1)), some (.int 7), some (.int w7), some (.int 4), some (.int (-1))], [.int (-1)], 102, xshD, N61) _
  refine P0.go (k := 9) (s' := (65, [some (.ref 56), some (.int (-1)), some (.int 7), some (.int w7), some (.int 4), some (.int (-1))], [], 102, xshD, (xup N61 90 7 w7))) rfl ?_
  refine P0.go (k := 11) (s' := (39, [some (.ref 56), some (.int (-1)), some (.int 7), some (.int w7), some (.int 5), some (.int (-1))], [.ref 56], 102, xshD, (xup (xup N61 90 7 w7) 90 7 5))) rfl ?_
  refine P0.call (z := 201) (as := [.ref 56]) (pc := 42) (pl := [some (.ref 56), some (.int (-1)), some (.int 7), some (.int w7), some (.int 5), some (.int (-1))]) (st := []) (nz := 102) (sh := xshD) (M := (xup (xup N61 90 7 w7) 90 7 5)) rfl (Nat.le_of_ble_eq_true rfl) ?_
  show P0 201 (0, [some (.ref 56), none, none, none, none, none], [], 102, xshD, (xup (xup N61 90 7 w7) 90 7 5)) _
  refine (xF_con xF_B (xsim_blind (xsim_blind g61 xEP 7 w7) xEP 7 5)).imp (fun r hr => ?_)
  obtain ⟨N62, rfl, g62⟩ := hr
  refine ⟨rfl, ?_⟩
  show P0 204 (42, [some (.ref 56), some (.int (-1)), some (.int 7), some (.int w7), some (.int 5), some (.int (-1))], [.int (-1)], 102, xshD, N62) _
  refine P0.go (k := 9) (s' := (65, [some (.ref 56), some (.int (-1)), some (.int 7), some (.int w7), some (.int 5), some (.int (-1))], [], 102, xshD, (xup N62 90 7 w7))) rfl ?_
  refine P0.go (k := 11) (s' := (39, [some (.ref 56), some (.int (-1)), some (.int 7), some (.int w7), some (.int 6), some (.int (-1))], [.ref 56], 102, xshD, (xup (xup N62 90 7 w7) 90 7 6))) rfl ?_
  refine P0.call (z := 201) (as := [.ref 56]) (pc := 42) (pl := [some (.ref 56), some (.int (-1)), some (.int 7), some (.int w7), some (.int 6), some (.int (-1))]) (st := []) (nz := 102) (sh := xshD) (M := (xup (xup N62 90 7 w7) 90 7 6)) rfl (Nat.le_of_ble_eq_true rfl) ?_
  show P0 201 (0, [some (.ref 56), none, none, none, none, none], [], 102, xshD, (xup (xup N62 90 7 w7) 90 7 6)) _
  refine (xF_con xF_B (xsim_blind (xsim_blind g62 xEP 7 w7) xEP 7 6)).imp (fun r hr => ?_)
  obtain ⟨N63, rfl, g63⟩ := hr
  refine ⟨rfl, ?_⟩
  show P0 204 (42, [some (.ref 56), some (.int (-1)), some (.int 7), some (.int w7), some (.int 6), some (.int (-1))], [.int (-1)], 102, xshD, N63) _
  refine P0.go (k := 9) (s' := (65, [some (.ref 56), some (.int (-1)), some (.int 7), some (.int w7), some (.int 6), some (.int (-1))], [], 102, xshD, (xup N63 90 7 w7))) rfl ?_
  refine P0.go (k := 11) (s' := (39, [some (.ref 56), some (.int (-1)), some (.int 7), some (.int w7), some (.int 7), some (.int (-1))], [.ref 56], 102, xshD, (xup (xup N63 90 7 w7) 90 7 7))) rfl ?_
  refine P0.call (z := 201) (as := [.ref 56]) (pc := 42) (pl := [some (.ref 56), some (.int (-1)), some (.int 7), some (.int w7), some (.int 7), some (.int (-1))]) (st := []) (nz := 102) (sh := xshD) (M := (xup (xup N63 90 7 w7) 90 7 7)) rfl (Nat.le_of_ble_eq_true rfl) ?_
  show P0 201 (0, [some (.ref 56), none, none, none, none, none], [], 102, xshD, (xup (xup N63 90 7 w7) 90 7 7)) _
  refine (xF_con xF_B (xsim_blind (xsim_blind g63 xEP 7 w7) xEP 7 7)).imp (fun r hr => ?_)
  obtain ⟨N64, rfl, g64⟩ := hr
  refine ⟨rfl, ?_⟩
  show P0 204 (42, [some (.ref 56), some (.int (-1)), some (.int 7), some (.int w7), some (.int 7), some (.int (-1))], [.int (-1)], 102, xshD, N64) _
  refine P0.go (k := 9) (s' := (65, [some (.ref 56), some (.int (-1)), some (.int 7), some (.int w7), some (.int 7), some (.int (-1))], [], 102, xshD, (xup N64 90 7 w7))) rfl ?_
  refine P0.go (k := 11) (s' := (78, [some (.ref 56), some (.int (-1)), some (.int 8), some (.int w7), some (.int 8), some (.int (-1))], [.int (-1)], 102, xshD, (xup N64 90 7 w7))) rfl ?_
  exact P0.ret (v := some (.int (-1))) rfl rfl
