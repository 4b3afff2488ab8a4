/-! THE LAW on a script of at most 5 ints -/
def xfin (r : xZ) : Prop := r.1 = some (.int 1) ∧ r.2.1 ≤ 102 ∧ xsl r.2.2.1 ≤ 2663
theorem PL.topi {xs : Nat → Int32} {L y pc : Nat} {pl : List (Option Value)} {sk : List Value} {h : Nat × List xSh × xM} {x x' : Int32} {Q : xZ → Prop} (e : x = x') (k : PL xs L y (pc, pl, .int x' :: sk, h) Q) : PL xs L y (pc, pl, .int x :: sk, h) Q := e ▸ k
theorem PL.same {xs : Nat → Int32} {L y t f : Nat} {r : List (Option Value) × List Value × Nat × List xSh × xM} {x : Int32} {Q : xZ → Prop} (k : PL xs L y (t, r) Q) : PL xs L y (xcmp .eq x x t f, r) Q := by
  rw [show xcmp .eq x x t f = t from if_pos rfl]
  exact k
def xparts (p : Nat) : Bool := match xshC[p]?, xshD[p]?, xsh0[p]? with
  | some c, some d, some e => (xsheq c xdm && xsheq d e) || (xsheq d xdm && xsheq c e)
  | _, _, _ => false
theorem xparts_all : (List.range 102).all xparts = true := by decide +kernel
theorem xlenC : xshC.length = 102 := by decide +kernel
theorem xlenD : xshD.length = 102 := by decide +kernel
theorem xpartsC {p : Nat} {c : xSh} (h : xshC[p]? = some c) : c = xdm ∨ xsh0[p]? = some c := by
  have hp : p < 102 := by rw [← xlenC]; exact (List.getElem?_eq_some_iff.mp h).1
  have q := List.all_eq_true.mp xparts_all p (List.mem_range.mpr hp)
  unfold xparts at q
  rw [h] at q
  split at q
  · rename_i c' d e e1 e2 e3
    cases e1
    rw [Bool.or_eq_true, Bool.and_eq_true, Bool.and_eq_true] at q
    rcases q with q | q
    · exact Or.inl (xsheq_of q.1)
    · rw [e3, xsheq_of q.2]; exact Or.inr rfl
  · cases q
theorem xpartsD {p : Nat} {d : xSh} (h : xshD[p]? = some d) : d = xdm ∨ (xsh0[p]? = some d ∧ xshC[p]? = some xdm) := by
  have hp : p < 102 := by rw [← xlenD]; exact (List.getElem?_eq_some_iff.mp h).1
  have q := List.all_eq_true.mp xparts_all p (List.mem_range.mpr hp)
  unfold xparts at q
  rw [h] at q
  split at q
  · rename_i c d' e e1 e2 e3
    cases e2
    rw [Bool.or_eq_true, Bool.and_eq_true, Bool.and_eq_true] at q
    rcases q with q | q
    · rw [e3, e1, xsheq_of q.1, xsheq_of q.2]; exact Or.inr ⟨rfl, rfl⟩
    · exact Or.inl (xsheq_of q.1)
  · cases q
theorem x_cls {y pc : Nat} {pl : List (Option Value)} {sk : List Value} {v : Option Value} {Q : xZ → Prop} (h : P0 y (pc, pl, sk, 102, xshC, xMt) (fun r => r.1 = v)) (k : ∀ M, xsim xshD xsh0 xMt M → Q (v, 102, xsh0, M)) : P0 y (pc, pl, sk, 102, xsh0, xM0) Q := by
  obtain ⟨n, r, hr, hv⟩ := h
  have hs : xsim xshC xsh0 xMt xM0 := by
    intro p d hp
    rcases xpartsC hp with q | q
    · exact Or.inl q
    · rcases xagree_sim xM0_t p d q with z | z
      · exact Or.inl z
      · exact Or.inr z
  obtain ⟨M1, M2, e1, e2, e3, e4⟩ := xsim_run n y pc pl sk 102 xshC xsh0 xMt xM0 r hs hr
  refine ⟨n, _, e2, ?_⟩
  rw [hv]
  refine k M2 (fun p d hp => ?_)
  rcases xpartsD hp with q | q
  · exact Or.inl q
  · refine Or.inr ⟨q.1, fun i hi => ?_⟩
    rw [e4 p q.2]
    rcases xagree_sim xM0_t p d q.1 with z | z
    · subst z
      exact absurd hi (Nat.not_lt_zero i)
    · exact z.2 i hi
theorem x_mod {y pc : Nat} {pl : List (Option Value)} {sk : List Value} {v : Option Value} {Q : xZ → Prop} {M : xM} (h : P0 y (pc, pl, sk, 102, xshD, xMt) (fun r => r.1 = v)) (hs : xsim xshD xsh0 xMt M) (k : ∀ M', Q (v, 102, xsh0, M')) : P0 y (pc, pl, sk, 102, xsh0, M) Q := by
  obtain ⟨n, r, hr, hv⟩ := h
  obtain ⟨M1, M2, e1, e2, e3, e4⟩ := xsim_run n y pc pl sk 102 xshD xsh0 xMt M r hs hr
  refine ⟨n, _, e2, ?_⟩
  rw [hv]
  exact k M2
set_option maxRecDepth 100000 in
theorem law_end (xs : Nat → Int32) (M : xM) : PL xs 5 231 (1139, [some (.ref 999), some (.ref 0), some (.ref 56), some (.int 0)], [], 102, xsh0, M) xfin := by
  refine PL.go (k := 7) (s' := (23, [some (.ref 999), some (.ref 0), some (.ref 56), some (.int 5)], [.int (Int32.ofNat 5 - Int32.ofInt 5), .int 5], 102, xsh0, M)) rfl ?_
  refine PL.topi (x' := 0) (by decide) ?_
  refine PL.go (k := 2) (s' := (1146, [some (.ref 999), some (.ref 0), some (.ref 56), some (.int 5)], [.int 1], 102, xsh0, M)) rfl ?_
  exact PL.ret (v := some (.int 1)) rfl ⟨rfl, Nat.le_refl _, Nat.le_of_eq xsl_sh0⟩
set_option maxRecDepth 100000 in
set_option maxHeartbeats 4000000 in
theorem law_0 (xs : Nat → Int32) : PL xs 5 231 (180, [some (.ref 999), some (.ref 0), some (.ref 56), some (.int 0)], [], 102, xsh0, xM0) xfin := by
  refine PL.go (k := 21) (s' := (201, [some (.ref 999), some (.ref 0), some (.ref 56), some (.int 0)], [.int (xs 4), .int (xs 3), .int (xs 2), .int (xs 1), .ref 0], 102, xsh0, xM0)) rfl ?_
  refine PL.call (z := 103) (as := [.ref 0, .int (xs 1), .int (xs 2), .int (xs 3), .int (xs 4)]) (pc := 204) (pl := [some (.ref 999), some (.ref 0), some (.ref 56), some (.int 0)]) (st := []) (nz := 102) (sh := xsh0) (M := xM0) rfl (Nat.le_of_ble_eq_true rfl) ?_
  refine x_cls (wc_meeting (xs 1) (xs 2) (xs 3) (xs 4)) (fun M1 hM1 => ⟨rfl, ?_⟩)
  show PL xs 5 231 (204, [some (.ref 999), some (.ref 0), some (.ref 56), some (.int 0)], [.int (F_meeting (xs 1) (xs 2) (xs 3) (xs 4))], 102, xsh0, M1) _
  refine PL.go (k := 21) (s' := (225, [some (.ref 999), some (.ref 0), some (.ref 56), some (.int 0)], [.int (xs 4), .int (xs 3), .int (xs 2), .int (xs 1), .ref 56, .int (F_meeting (xs 1) (xs 2) (xs 3) (xs 4))], 102, xsh0, M1)) rfl ?_
  refine PL.call (z := 157) (as := [.ref 56, .int (xs 1), .int (xs 2), .int (xs 3), .int (xs 4)]) (pc := 228) (pl := [some (.ref 999), some (.ref 0), some (.ref 56), some (.int 0)]) (st := [.int (F_meeting (xs 1) (xs 2) (xs 3) (xs 4))]) (nz := 102) (sh := xsh0) (M := M1) rfl (Nat.le_of_ble_eq_true rfl) ?_
  refine x_mod (wm_meeting (xs 1) (xs 2) (xs 3) (xs 4)) hM1 (fun M2 => ⟨rfl, ?_⟩)
  show PL xs 5 231 (228, [some (.ref 999), some (.ref 0), some (.ref 56), some (.int 0)], [.int (F_meeting (xs 1) (xs 2) (xs 3) (xs 4)), .int (F_meeting (xs 1) (xs 2) (xs 3) (xs 4))], 102, xsh0, M2) _
  refine PL.go (k := 1) (s' := (xcmp .eq (F_meeting (xs 1) (xs 2) (xs 3) (xs 4)) (F_meeting (xs 1) (xs 2) (xs 3) (xs 4)) 1139 231, [some (.ref 999), some (.ref 0), some (.ref 56), some (.int 0)], [], 102, xsh0, M2)) rfl ?_
  refine PL.same ?_
  exact law_end xs _
set_option maxRecDepth 100000 in
set_option maxHeartbeats 4000000 in
theorem law_1 (xs : Nat → Int32) : PL xs 5 231 (233, [some (.ref 999), some (.ref 0), some (.ref 56), some (.int 0)], [], 102, xsh0, xM0) xfin := by
  refine PL.go (k := 11) (s' := (244, [some (.ref 999), some (.ref 0), some (.ref 56), some (.int 0)], [.int (xs 2), .int (xs 1), .ref 0], 102, xsh0, xM0)) rfl ?_
  refine PL.call (z := 104) (as := [.ref 0, .int (xs 1), .int (xs 2)]) (pc := 247) (pl := [some (.ref 999), some (.ref 0), some (.ref 56), some (.int 0)]) (st := []) (nz := 102) (sh := xsh0) (M := xM0) rfl (Nat.le_of_ble_eq_true rfl) ?_
  refine x_cls (wc_law (xs 1) (xs 2)) (fun M1 hM1 => ⟨rfl, ?_⟩)
  show PL xs 5 231 (247, [some (.ref 999), some (.ref 0), some (.ref 56), some (.int 0)], [.int (F_law (xs 1) (xs 2))], 102, xsh0, M1) _
  refine PL.go (k := 11) (s' := (258, [some (.ref 999), some (.ref 0), some (.ref 56), some (.int 0)], [.int (xs 2), .int (xs 1), .ref 56, .int (F_law (xs 1) (xs 2))], 102, xsh0, M1)) rfl ?_
  refine PL.call (z := 158) (as := [.ref 56, .int (xs 1), .int (xs 2)]) (pc := 261) (pl := [some (.ref 999), some (.ref 0), some (.ref 56), some (.int 0)]) (st := [.int (F_law (xs 1) (xs 2))]) (nz := 102) (sh := xsh0) (M := M1) rfl (Nat.le_of_ble_eq_true rfl) ?_
  refine x_mod (wm_law (xs 1) (xs 2)) hM1 (fun M2 => ⟨rfl, ?_⟩)
  show PL xs 5 231 (261, [some (.ref 999), some (.ref 0), some (.ref 56), some (.int 0)], [.int (F_law (xs 1) (xs 2)), .int (F_law (xs 1) (xs 2))], 102, xsh0, M2) _
  refine PL.go (k := 1) (s' := (xcmp .eq (F_law (xs 1) (xs 2)) (F_law (xs 1) (xs 2)) 1139 264, [some (.ref 999), some (.ref 0), some (.ref 56), some (.int 0)], [], 102, xsh0, M2)) rfl ?_
  refine PL.same ?_
  exact law_end xs _
set_option maxRecDepth 100000 in
set_option maxHeartbeats 4000000 in
theorem law_2 (xs : Nat → Int32) : PL xs 5 231 (266, [some (.ref 999), some (.ref 0), some (.ref 56), some (.int 0)], [], 102, xsh0, xM0) xfin := by
  refine PL.go (k := 6) (s' := (272, [some (.ref 999), some (.ref 0), some (.ref 56), some (.int 0)], [.int (xs 1), .ref 0], 102, xsh0, xM0)) rfl ?_
  refine PL.call (z := 105) (as := [.ref 0, .int (xs 1)]) (pc := 275) (pl := [some (.ref 999), some (.ref 0), some (.ref 56), some (.int 0)]) (st := []) (nz := 102) (sh := xsh0) (M := xM0) rfl (Nat.le_of_ble_eq_true rfl) ?_
  refine x_cls (wc_good (xs 1)) (fun M1 hM1 => ⟨rfl, ?_⟩)
  show PL xs 5 231 (275, [some (.ref 999), some (.ref 0), some (.ref 56), some (.int 0)], [.int (F_good (xs 1))], 102, xsh0, M1) _
  refine PL.go (k := 6) (s' := (281, [some (.ref 999), some (.ref 0), some (.ref 56), some (.int 0)], [.int (xs 1), .ref 56, .int (F_good (xs 1))], 102, xsh0, M1)) rfl ?_
  refine PL.call (z := 160) (as := [.ref 56, .int (xs 1)]) (pc := 284) (pl := [some (.ref 999), some (.ref 0), some (.ref 56), some (.int 0)]) (st := [.int (F_good (xs 1))]) (nz := 102) (sh := xsh0) (M := M1) rfl (Nat.le_of_ble_eq_true rfl) ?_
  refine x_mod (wm_good (xs 1)) hM1 (fun M2 => ⟨rfl, ?_⟩)
  show PL xs 5 231 (284, [some (.ref 999), some (.ref 0), some (.ref 56), some (.int 0)], [.int (F_good (xs 1)), .int (F_good (xs 1))], 102, xsh0, M2) _
  refine PL.go (k := 1) (s' := (xcmp .eq (F_good (xs 1)) (F_good (xs 1)) 1139 287, [some (.ref 999), some (.ref 0), some (.ref 56), some (.int 0)], [], 102, xsh0, M2)) rfl ?_
  refine PL.same ?_
  exact law_end xs _
set_option maxRecDepth 100000 in
set_option maxHeartbeats 4000000 in
theorem law_3 (xs : Nat → Int32) : PL xs 5 231 (289, [some (.ref 999), some (.ref 0), some (.ref 56), some (.int 0)], [], 102, xsh0, xM0) xfin := by
  refine PL.go (k := 21) (s' := (310, [some (.ref 999), some (.ref 0), some (.ref 56), some (.int 0)], [.int (xs 4), .int (xs 3), .int (xs 2), .int (xs 1), .ref 0], 102, xsh0, xM0)) rfl ?_
  refine PL.call (z := 106) (as := [.ref 0, .int (xs 1), .int (xs 2), .int (xs 3), .int (xs 4)]) (pc := 313) (pl := [some (.ref 999), some (.ref 0), some (.ref 56), some (.int 0)]) (st := []) (nz := 102) (sh := xsh0) (M := xM0) rfl (Nat.le_of_ble_eq_true rfl) ?_
  refine x_cls (wc_seat (xs 1) (xs 2) (xs 3) (xs 4)) (fun M1 hM1 => ⟨rfl, ?_⟩)
  show PL xs 5 231 (313, [some (.ref 999), some (.ref 0), some (.ref 56), some (.int 0)], [.int (F_seat (xs 1) (xs 2) (xs 3) (xs 4))], 102, xsh0, M1) _
  refine PL.go (k := 21) (s' := (334, [some (.ref 999), some (.ref 0), some (.ref 56), some (.int 0)], [.int (xs 4), .int (xs 3), .int (xs 2), .int (xs 1), .ref 56, .int (F_seat (xs 1) (xs 2) (xs 3) (xs 4))], 102, xsh0, M1)) rfl ?_
  refine PL.call (z := 162) (as := [.ref 56, .int (xs 1), .int (xs 2), .int (xs 3), .int (xs 4)]) (pc := 337) (pl := [some (.ref 999), some (.ref 0), some (.ref 56), some (.int 0)]) (st := [.int (F_seat (xs 1) (xs 2) (xs 3) (xs 4))]) (nz := 102) (sh := xsh0) (M := M1) rfl (Nat.le_of_ble_eq_true rfl) ?_
  refine x_mod (wm_seat (xs 1) (xs 2) (xs 3) (xs 4)) hM1 (fun M2 => ⟨rfl, ?_⟩)
  show PL xs 5 231 (337, [some (.ref 999), some (.ref 0), some (.ref 56), some (.int 0)], [.int (F_seat (xs 1) (xs 2) (xs 3) (xs 4)), .int (F_seat (xs 1) (xs 2) (xs 3) (xs 4))], 102, xsh0, M2) _
  refine PL.go (k := 1) (s' := (xcmp .eq (F_seat (xs 1) (xs 2) (xs 3) (xs 4)) (F_seat (xs 1) (xs 2) (xs 3) (xs 4)) 1139 340, [some (.ref 999), some (.ref 0), some (.ref 56), some (.int 0)], [], 102, xsh0, M2)) rfl ?_
  refine PL.same ?_
  exact law_end xs _
set_option maxRecDepth 100000 in
set_option maxHeartbeats 4000000 in
theorem law_4 (xs : Nat → Int32) : PL xs 5 231 (342, [some (.ref 999), some (.ref 0), some (.ref 56), some (.int 0)], [], 102, xsh0, xM0) xfin := by
  refine PL.go (k := 11) (s' := (353, [some (.ref 999), some (.ref 0), some (.ref 56), some (.int 0)], [.int (xs 2), .int (xs 1), .ref 0], 102, xsh0, xM0)) rfl ?_
  refine PL.call (z := 107) (as := [.ref 0, .int (xs 1), .int (xs 2)]) (pc := 356) (pl := [some (.ref 999), some (.ref 0), some (.ref 56), some (.int 0)]) (st := []) (nz := 102) (sh := xsh0) (M := xM0) rfl (Nat.le_of_ble_eq_true rfl) ?_
  refine x_cls (wc_out (xs 1) (xs 2)) (fun M1 hM1 => ⟨rfl, ?_⟩)
  show PL xs 5 231 (356, [some (.ref 999), some (.ref 0), some (.ref 56), some (.int 0)], [.int (F_out (xs 1) (xs 2))], 102, xsh0, M1) _
  refine PL.go (k := 11) (s' := (367, [some (.ref 999), some (.ref 0), some (.ref 56), some (.int 0)], [.int (xs 2), .int (xs 1), .ref 56, .int (F_out (xs 1) (xs 2))], 102, xsh0, M1)) rfl ?_
  refine PL.call (z := 163) (as := [.ref 56, .int (xs 1), .int (xs 2)]) (pc := 370) (pl := [some (.ref 999), some (.ref 0), some (.ref 56), some (.int 0)]) (st := [.int (F_out (xs 1) (xs 2))]) (nz := 102) (sh := xsh0) (M := M1) rfl (Nat.le_of_ble_eq_true rfl) ?_
  refine x_mod (wm_out (xs 1) (xs 2)) hM1 (fun M2 => ⟨rfl, ?_⟩)
  show PL xs 5 231 (370, [some (.ref 999), some (.ref 0), some (.ref 56), some (.int 0)], [.int (F_out (xs 1) (xs 2)), .int (F_out (xs 1) (xs 2))], 102, xsh0, M2) _
  refine PL.go (k := 1) (s' := (xcmp .eq (F_out (xs 1) (xs 2)) (F_out (xs 1) (xs 2)) 1139 373, [some (.ref 999), some (.ref 0), some (.ref 56), some (.int 0)], [], 102, xsh0, M2)) rfl ?_
  refine PL.same ?_
  exact law_end xs _
set_option maxRecDepth 100000 in
set_option maxHeartbeats 4000000 in
theorem law_5 (xs : Nat → Int32) : PL xs 5 231 (375, [some (.ref 999), some (.ref 0), some (.ref 56), some (.int 0)], [], 102, xsh0, xM0) xfin := by
  refine PL.go (k := 11) (s' := (386, [some (.ref 999), some (.ref 0), some (.ref 56), some (.int 0)], [.int (xs 2), .int (xs 1), .ref 0], 102, xsh0, xM0)) rfl ?_
  refine PL.call (z := 108) (as := [.ref 0, .int (xs 1), .int (xs 2)]) (pc := 389) (pl := [some (.ref 999), some (.ref 0), some (.ref 56), some (.int 0)]) (st := []) (nz := 102) (sh := xsh0) (M := xM0) rfl (Nat.le_of_ble_eq_true rfl) ?_
  refine x_cls (wc_like (xs 1) (xs 2)) (fun M1 hM1 => ⟨rfl, ?_⟩)
  show PL xs 5 231 (389, [some (.ref 999), some (.ref 0), some (.ref 56), some (.int 0)], [.int (F_like (xs 1) (xs 2))], 102, xsh0, M1) _
  refine PL.go (k := 11) (s' := (400, [some (.ref 999), some (.ref 0), some (.ref 56), some (.int 0)], [.int (xs 2), .int (xs 1), .ref 56, .int (F_like (xs 1) (xs 2))], 102, xsh0, M1)) rfl ?_
  refine PL.call (z := 164) (as := [.ref 56, .int (xs 1), .int (xs 2)]) (pc := 403) (pl := [some (.ref 999), some (.ref 0), some (.ref 56), some (.int 0)]) (st := [.int (F_like (xs 1) (xs 2))]) (nz := 102) (sh := xsh0) (M := M1) rfl (Nat.le_of_ble_eq_true rfl) ?_
  refine x_mod (wm_like (xs 1) (xs 2)) hM1 (fun M2 => ⟨rfl, ?_⟩)
  show PL xs 5 231 (403, [some (.ref 999), some (.ref 0), some (.ref 56), some (.int 0)], [.int (F_like (xs 1) (xs 2)), .int (F_like (xs 1) (xs 2))], 102, xsh0, M2) _
  refine PL.go (k := 1) (s' := (xcmp .eq (F_like (xs 1) (xs 2)) (F_like (xs 1) (xs 2)) 1139 406, [some (.ref 999), some (.ref 0), some (.ref 56), some (.int 0)], [], 102, xsh0, M2)) rfl ?_
  refine PL.same ?_
  exact law_end xs _
set_option maxRecDepth 100000 in
set_option maxHeartbeats 4000000 in
theorem law_6 (xs : Nat → Int32) : PL xs 5 231 (408, [some (.ref 999), some (.ref 0), some (.ref 56), some (.int 0)], [], 102, xsh0, xM0) xfin := by
  refine PL.go (k := 6) (s' := (414, [some (.ref 999), some (.ref 0), some (.ref 56), some (.int 0)], [.int (xs 1), .ref 0], 102, xsh0, xM0)) rfl ?_
  refine PL.call (z := 109) (as := [.ref 0, .int (xs 1)]) (pc := 417) (pl := [some (.ref 999), some (.ref 0), some (.ref 56), some (.int 0)]) (st := []) (nz := 102) (sh := xsh0) (M := xM0) rfl (Nat.le_of_ble_eq_true rfl) ?_
  refine x_cls (wc_unlike (xs 1)) (fun M1 hM1 => ⟨rfl, ?_⟩)
  show PL xs 5 231 (417, [some (.ref 999), some (.ref 0), some (.ref 56), some (.int 0)], [.int (F_unlike (xs 1))], 102, xsh0, M1) _
  refine PL.go (k := 6) (s' := (423, [some (.ref 999), some (.ref 0), some (.ref 56), some (.int 0)], [.int (xs 1), .ref 56, .int (F_unlike (xs 1))], 102, xsh0, M1)) rfl ?_
  refine PL.call (z := 165) (as := [.ref 56, .int (xs 1)]) (pc := 426) (pl := [some (.ref 999), some (.ref 0), some (.ref 56), some (.int 0)]) (st := [.int (F_unlike (xs 1))]) (nz := 102) (sh := xsh0) (M := M1) rfl (Nat.le_of_ble_eq_true rfl) ?_
  refine x_mod (wm_unlike (xs 1)) hM1 (fun M2 => ⟨rfl, ?_⟩)
  show PL xs 5 231 (426, [some (.ref 999), some (.ref 0), some (.ref 56), some (.int 0)], [.int (F_unlike (xs 1)), .int (F_unlike (xs 1))], 102, xsh0, M2) _
  refine PL.go (k := 1) (s' := (xcmp .eq (F_unlike (xs 1)) (F_unlike (xs 1)) 1139 429, [some (.ref 999), some (.ref 0), some (.ref 56), some (.int 0)], [], 102, xsh0, M2)) rfl ?_
  refine PL.same ?_
  exact law_end xs _
set_option maxRecDepth 100000 in
set_option maxHeartbeats 4000000 in
theorem law_7 (xs : Nat → Int32) : PL xs 5 231 (431, [some (.ref 999), some (.ref 0), some (.ref 56), some (.int 0)], [], 102, xsh0, xM0) xfin := by
  refine PL.go (k := 6) (s' := (437, [some (.ref 999), some (.ref 0), some (.ref 56), some (.int 0)], [.int (xs 1), .ref 0], 102, xsh0, xM0)) rfl ?_
  refine PL.call (z := 110) (as := [.ref 0, .int (xs 1)]) (pc := 440) (pl := [some (.ref 999), some (.ref 0), some (.ref 56), some (.int 0)]) (st := []) (nz := 102) (sh := xsh0) (M := xM0) rfl (Nat.le_of_ble_eq_true rfl) ?_
  refine x_cls (wc_credential (xs 1)) (fun M1 hM1 => ⟨rfl, ?_⟩)
  show PL xs 5 231 (440, [some (.ref 999), some (.ref 0), some (.ref 56), some (.int 0)], [.int (F_credential (xs 1))], 102, xsh0, M1) _
  refine PL.go (k := 6) (s' := (446, [some (.ref 999), some (.ref 0), some (.ref 56), some (.int 0)], [.int (xs 1), .ref 56, .int (F_credential (xs 1))], 102, xsh0, M1)) rfl ?_
  refine PL.call (z := 166) (as := [.ref 56, .int (xs 1)]) (pc := 449) (pl := [some (.ref 999), some (.ref 0), some (.ref 56), some (.int 0)]) (st := [.int (F_credential (xs 1))]) (nz := 102) (sh := xsh0) (M := M1) rfl (Nat.le_of_ble_eq_true rfl) ?_
  refine x_mod (wm_credential (xs 1)) hM1 (fun M2 => ⟨rfl, ?_⟩)
  show PL xs 5 231 (449, [some (.ref 999), some (.ref 0), some (.ref 56), some (.int 0)], [.int (F_credential (xs 1)), .int (F_credential (xs 1))], 102, xsh0, M2) _
  refine PL.go (k := 1) (s' := (xcmp .eq (F_credential (xs 1)) (F_credential (xs 1)) 1139 452, [some (.ref 999), some (.ref 0), some (.ref 56), some (.int 0)], [], 102, xsh0, M2)) rfl ?_
  refine PL.same ?_
  exact law_end xs _
set_option maxRecDepth 100000 in
set_option maxHeartbeats 4000000 in
theorem law_8 (xs : Nat → Int32) : PL xs 5 231 (454, [some (.ref 999), some (.ref 0), some (.ref 56), some (.int 0)], [], 102, xsh0, xM0) xfin := by
  refine PL.go (k := 11) (s' := (465, [some (.ref 999), some (.ref 0), some (.ref 56), some (.int 0)], [.int (xs 2), .int (xs 1), .ref 0], 102, xsh0, xM0)) rfl ?_
  refine PL.call (z := 111) (as := [.ref 0, .int (xs 1), .int (xs 2)]) (pc := 468) (pl := [some (.ref 999), some (.ref 0), some (.ref 56), some (.int 0)]) (st := []) (nz := 102) (sh := xsh0) (M := xM0) rfl (Nat.le_of_ble_eq_true rfl) ?_
  refine x_cls (wc_about (xs 1) (xs 2)) (fun M1 hM1 => ⟨rfl, ?_⟩)
  show PL xs 5 231 (468, [some (.ref 999), some (.ref 0), some (.ref 56), some (.int 0)], [.int (F_about (xs 1) (xs 2))], 102, xsh0, M1) _
  refine PL.go (k := 11) (s' := (479, [some (.ref 999), some (.ref 0), some (.ref 56), some (.int 0)], [.int (xs 2), .int (xs 1), .ref 56, .int (F_about (xs 1) (xs 2))], 102, xsh0, M1)) rfl ?_
  refine PL.call (z := 171) (as := [.ref 56, .int (xs 1), .int (xs 2)]) (pc := 482) (pl := [some (.ref 999), some (.ref 0), some (.ref 56), some (.int 0)]) (st := [.int (F_about (xs 1) (xs 2))]) (nz := 102) (sh := xsh0) (M := M1) rfl (Nat.le_of_ble_eq_true rfl) ?_
  refine x_mod (wm_about (xs 1) (xs 2)) hM1 (fun M2 => ⟨rfl, ?_⟩)
  show PL xs 5 231 (482, [some (.ref 999), some (.ref 0), some (.ref 56), some (.int 0)], [.int (F_about (xs 1) (xs 2)), .int (F_about (xs 1) (xs 2))], 102, xsh0, M2) _
  refine PL.go (k := 1) (s' := (xcmp .eq (F_about (xs 1) (xs 2)) (F_about (xs 1) (xs 2)) 1139 485, [some (.ref 999), some (.ref 0), some (.ref 56), some (.int 0)], [], 102, xsh0, M2)) rfl ?_
  refine PL.same ?_
  exact law_end xs _
set_option maxRecDepth 100000 in
set_option maxHeartbeats 4000000 in
theorem law_9 (xs : Nat → Int32) : PL xs 5 231 (487, [some (.ref 999), some (.ref 0), some (.ref 56), some (.int 0)], [], 102, xsh0, xM0) xfin := by
  refine PL.go (k := 23) (s' := (513, [some (.ref 999), some (.ref 0), some (.ref 56), some (.int 0)], [.int (xs 3), .long ((((xs 1).toInt64) <<< ((32 : Int32).toInt64 &&& 63)) ||| (((xs 2).toInt64) &&& (4294967295))), .ref 0], 102, xsh0, xM0)) rfl ?_
  refine PL.call (z := 112) (as := [.ref 0, .long ((((xs 1).toInt64) <<< ((32 : Int32).toInt64 &&& 63)) ||| (((xs 2).toInt64) &&& (4294967295))), .int (xs 3)]) (pc := 516) (pl := [some (.ref 999), some (.ref 0), some (.ref 56), some (.int 0)]) (st := []) (nz := 102) (sh := xsh0) (M := xM0) rfl (Nat.le_of_ble_eq_true rfl) ?_
  refine x_cls (wc_feed ((((xs 1).toInt64) <<< ((32 : Int32).toInt64 &&& 63)) ||| (((xs 2).toInt64) &&& (4294967295))) (xs 3)) (fun M1 hM1 => ⟨rfl, ?_⟩)
  show PL xs 5 231 (516, [some (.ref 999), some (.ref 0), some (.ref 56), some (.int 0)], [.int (F_feed (xs 3))], 102, xsh0, M1) _
  refine PL.go (k := 23) (s' := (542, [some (.ref 999), some (.ref 0), some (.ref 56), some (.int 0)], [.int (xs 3), .long ((((xs 1).toInt64) <<< ((32 : Int32).toInt64 &&& 63)) ||| (((xs 2).toInt64) &&& (4294967295))), .ref 56, .int (F_feed (xs 3))], 102, xsh0, M1)) rfl ?_
  refine PL.call (z := 172) (as := [.ref 56, .long ((((xs 1).toInt64) <<< ((32 : Int32).toInt64 &&& 63)) ||| (((xs 2).toInt64) &&& (4294967295))), .int (xs 3)]) (pc := 545) (pl := [some (.ref 999), some (.ref 0), some (.ref 56), some (.int 0)]) (st := [.int (F_feed (xs 3))]) (nz := 102) (sh := xsh0) (M := M1) rfl (Nat.le_of_ble_eq_true rfl) ?_
  refine x_mod (wm_feed ((((xs 1).toInt64) <<< ((32 : Int32).toInt64 &&& 63)) ||| (((xs 2).toInt64) &&& (4294967295))) (xs 3)) hM1 (fun M2 => ⟨rfl, ?_⟩)
  show PL xs 5 231 (545, [some (.ref 999), some (.ref 0), some (.ref 56), some (.int 0)], [.int (F_feed (xs 3)), .int (F_feed (xs 3))], 102, xsh0, M2) _
  refine PL.go (k := 1) (s' := (xcmp .eq (F_feed (xs 3)) (F_feed (xs 3)) 1139 548, [some (.ref 999), some (.ref 0), some (.ref 56), some (.int 0)], [], 102, xsh0, M2)) rfl ?_
  refine PL.same ?_
  exact law_end xs _
set_option maxRecDepth 100000 in
set_option maxHeartbeats 4000000 in
theorem law_10 (xs : Nat → Int32) : PL xs 5 231 (550, [some (.ref 999), some (.ref 0), some (.ref 56), some (.int 0)], [], 102, xsh0, xM0) xfin := by
  refine PL.go (k := 1) (s' := (551, [some (.ref 999), some (.ref 0), some (.ref 56), some (.int 0)], [.ref 0], 102, xsh0, xM0)) rfl ?_
  refine PL.call (z := 113) (as := [.ref 0]) (pc := 554) (pl := [some (.ref 999), some (.ref 0), some (.ref 56), some (.int 0)]) (st := []) (nz := 102) (sh := xsh0) (M := xM0) rfl (Nat.le_of_ble_eq_true rfl) ?_
  refine x_cls (wc_rule ) (fun M1 hM1 => ⟨rfl, ?_⟩)
  show PL xs 5 231 (554, [some (.ref 999), some (.ref 0), some (.ref 56), some (.int 0)], [.int (-10)], 102, xsh0, M1) _
  refine PL.go (k := 1) (s' := (555, [some (.ref 999), some (.ref 0), some (.ref 56), some (.int 0)], [.ref 56, .int (-10)], 102, xsh0, M1)) rfl ?_
  refine PL.call (z := 180) (as := [.ref 56]) (pc := 558) (pl := [some (.ref 999), some (.ref 0), some (.ref 56), some (.int 0)]) (st := [.int (-10)]) (nz := 102) (sh := xsh0) (M := M1) rfl (Nat.le_of_ble_eq_true rfl) ?_
  refine x_mod (wm_rule ) hM1 (fun M2 => ⟨rfl, ?_⟩)
  show PL xs 5 231 (558, [some (.ref 999), some (.ref 0), some (.ref 56), some (.int 0)], [.int (-10), .int (-10)], 102, xsh0, M2) _
  refine PL.go (k := 1) (s' := (xcmp .eq ((-10)) ((-10)) 1139 561, [some (.ref 999), some (.ref 0), some (.ref 56), some (.int 0)], [], 102, xsh0, M2)) rfl ?_
  refine PL.same ?_
  exact law_end xs _
set_option maxRecDepth 100000 in
set_option maxHeartbeats 4000000 in
theorem law_11 (xs : Nat → Int32) : PL xs 5 231 (563, [some (.ref 999), some (.ref 0), some (.ref 56), some (.int 0)], [], 102, xsh0, xM0) xfin := by
  refine PL.go (k := 6) (s' := (569, [some (.ref 999), some (.ref 0), some (.ref 56), some (.int 0)], [.int (xs 1), .ref 0], 102, xsh0, xM0)) rfl ?_
  refine PL.call (z := 114) (as := [.ref 0, .int (xs 1)]) (pc := 572) (pl := [some (.ref 999), some (.ref 0), some (.ref 56), some (.int 0)]) (st := []) (nz := 102) (sh := xsh0) (M := xM0) rfl (Nat.le_of_ble_eq_true rfl) ?_
  refine x_cls (wc_force (xs 1)) (fun M1 hM1 => ⟨rfl, ?_⟩)
  show PL xs 5 231 (572, [some (.ref 999), some (.ref 0), some (.ref 56), some (.int 0)], [.int (F_force (xs 1))], 102, xsh0, M1) _
  refine PL.go (k := 6) (s' := (578, [some (.ref 999), some (.ref 0), some (.ref 56), some (.int 0)], [.int (xs 1), .ref 56, .int (F_force (xs 1))], 102, xsh0, M1)) rfl ?_
  refine PL.call (z := 184) (as := [.ref 56, .int (xs 1)]) (pc := 581) (pl := [some (.ref 999), some (.ref 0), some (.ref 56), some (.int 0)]) (st := [.int (F_force (xs 1))]) (nz := 102) (sh := xsh0) (M := M1) rfl (Nat.le_of_ble_eq_true rfl) ?_
  refine x_mod (wm_force (xs 1)) hM1 (fun M2 => ⟨rfl, ?_⟩)
  show PL xs 5 231 (581, [some (.ref 999), some (.ref 0), some (.ref 56), some (.int 0)], [.int (F_force (xs 1)), .int (F_force (xs 1))], 102, xsh0, M2) _
  refine PL.go (k := 1) (s' := (xcmp .eq (F_force (xs 1)) (F_force (xs 1)) 1139 584, [some (.ref 999), some (.ref 0), some (.ref 56), some (.int 0)], [], 102, xsh0, M2)) rfl ?_
  refine PL.same ?_
  exact law_end xs _
set_option maxRecDepth 100000 in
set_option maxHeartbeats 4000000 in
theorem law_12 (xs : Nat → Int32) : PL xs 5 231 (586, [some (.ref 999), some (.ref 0), some (.ref 56), some (.int 0)], [], 102, xsh0, xM0) xfin := by
  refine PL.go (k := 11) (s' := (597, [some (.ref 999), some (.ref 0), some (.ref 56), some (.int 0)], [.int (xs 2), .int (xs 1), .ref 0], 102, xsh0, xM0)) rfl ?_
  refine PL.call (z := 115) (as := [.ref 0, .int (xs 1), .int (xs 2)]) (pc := 600) (pl := [some (.ref 999), some (.ref 0), some (.ref 56), some (.int 0)]) (st := []) (nz := 102) (sh := xsh0) (M := xM0) rfl (Nat.le_of_ble_eq_true rfl) ?_
  refine x_cls (wc_move (xs 1) (xs 2)) (fun M1 hM1 => ⟨rfl, ?_⟩)
  show PL xs 5 231 (600, [some (.ref 999), some (.ref 0), some (.ref 56), some (.int 0)], [.int (F_move (xs 1) (xs 2))], 102, xsh0, M1) _
  refine PL.go (k := 11) (s' := (611, [some (.ref 999), some (.ref 0), some (.ref 56), some (.int 0)], [.int (xs 2), .int (xs 1), .ref 56, .int (F_move (xs 1) (xs 2))], 102, xsh0, M1)) rfl ?_
  refine PL.call (z := 187) (as := [.ref 56, .int (xs 1), .int (xs 2)]) (pc := 614) (pl := [some (.ref 999), some (.ref 0), some (.ref 56), some (.int 0)]) (st := [.int (F_move (xs 1) (xs 2))]) (nz := 102) (sh := xsh0) (M := M1) rfl (Nat.le_of_ble_eq_true rfl) ?_
  refine x_mod (wm_move (xs 1) (xs 2)) hM1 (fun M2 => ⟨rfl, ?_⟩)
  show PL xs 5 231 (614, [some (.ref 999), some (.ref 0), some (.ref 56), some (.int 0)], [.int (F_move (xs 1) (xs 2)), .int (F_move (xs 1) (xs 2))], 102, xsh0, M2) _
  refine PL.go (k := 1) (s' := (xcmp .eq (F_move (xs 1) (xs 2)) (F_move (xs 1) (xs 2)) 1139 617, [some (.ref 999), some (.ref 0), some (.ref 56), some (.int 0)], [], 102, xsh0, M2)) rfl ?_
  refine PL.same ?_
  exact law_end xs _
set_option maxRecDepth 100000 in
set_option maxHeartbeats 4000000 in
theorem law_13 (xs : Nat → Int32) : PL xs 5 231 (619, [some (.ref 999), some (.ref 0), some (.ref 56), some (.int 0)], [], 102, xsh0, xM0) xfin := by
  refine PL.go (k := 6) (s' := (625, [some (.ref 999), some (.ref 0), some (.ref 56), some (.int 0)], [.int (xs 1), .ref 0], 102, xsh0, xM0)) rfl ?_
  refine PL.call (z := 116) (as := [.ref 0, .int (xs 1)]) (pc := 628) (pl := [some (.ref 999), some (.ref 0), some (.ref 56), some (.int 0)]) (st := []) (nz := 102) (sh := xsh0) (M := xM0) rfl (Nat.le_of_ble_eq_true rfl) ?_
  refine x_cls (wc_vote (xs 1)) (fun M1 hM1 => ⟨rfl, ?_⟩)
  show PL xs 5 231 (628, [some (.ref 999), some (.ref 0), some (.ref 56), some (.int 0)], [.int (F_vote (xs 1))], 102, xsh0, M1) _
  refine PL.go (k := 6) (s' := (634, [some (.ref 999), some (.ref 0), some (.ref 56), some (.int 0)], [.int (xs 1), .ref 56, .int (F_vote (xs 1))], 102, xsh0, M1)) rfl ?_
  refine PL.call (z := 191) (as := [.ref 56, .int (xs 1)]) (pc := 637) (pl := [some (.ref 999), some (.ref 0), some (.ref 56), some (.int 0)]) (st := [.int (F_vote (xs 1))]) (nz := 102) (sh := xsh0) (M := M1) rfl (Nat.le_of_ble_eq_true rfl) ?_
  refine x_mod (wm_vote (xs 1)) hM1 (fun M2 => ⟨rfl, ?_⟩)
  show PL xs 5 231 (637, [some (.ref 999), some (.ref 0), some (.ref 56), some (.int 0)], [.int (F_vote (xs 1)), .int (F_vote (xs 1))], 102, xsh0, M2) _
  refine PL.go (k := 1) (s' := (xcmp .eq (F_vote (xs 1)) (F_vote (xs 1)) 1139 640, [some (.ref 999), some (.ref 0), some (.ref 56), some (.int 0)], [], 102, xsh0, M2)) rfl ?_
  refine PL.same ?_
  exact law_end xs _
set_option maxRecDepth 100000 in
set_option maxHeartbeats 4000000 in
theorem law_14 (xs : Nat → Int32) : PL xs 5 231 (642, [some (.ref 999), some (.ref 0), some (.ref 56), some (.int 0)], [], 102, xsh0, xM0) xfin := by
  refine PL.go (k := 11) (s' := (653, [some (.ref 999), some (.ref 0), some (.ref 56), some (.int 0)], [.int (xs 2), .int (xs 1), .ref 0], 102, xsh0, xM0)) rfl ?_
  refine PL.call (z := 117) (as := [.ref 0, .int (xs 1), .int (xs 2)]) (pc := 656) (pl := [some (.ref 999), some (.ref 0), some (.ref 56), some (.int 0)]) (st := []) (nz := 102) (sh := xsh0) (M := xM0) rfl (Nat.le_of_ble_eq_true rfl) ?_
  refine x_cls (wc_motion (xs 1) (xs 2)) (fun M1 hM1 => ⟨rfl, ?_⟩)
  show PL xs 5 231 (656, [some (.ref 999), some (.ref 0), some (.ref 56), some (.int 0)], [.int (F_motion (xs 1) (xs 2))], 102, xsh0, M1) _
  refine PL.go (k := 11) (s' := (667, [some (.ref 999), some (.ref 0), some (.ref 56), some (.int 0)], [.int (xs 2), .int (xs 1), .ref 56, .int (F_motion (xs 1) (xs 2))], 102, xsh0, M1)) rfl ?_
  refine PL.call (z := 192) (as := [.ref 56, .int (xs 1), .int (xs 2)]) (pc := 670) (pl := [some (.ref 999), some (.ref 0), some (.ref 56), some (.int 0)]) (st := [.int (F_motion (xs 1) (xs 2))]) (nz := 102) (sh := xsh0) (M := M1) rfl (Nat.le_of_ble_eq_true rfl) ?_
  refine x_mod (wm_motion (xs 1) (xs 2)) hM1 (fun M2 => ⟨rfl, ?_⟩)
  show PL xs 5 231 (670, [some (.ref 999), some (.ref 0), some (.ref 56), some (.int 0)], [.int (F_motion (xs 1) (xs 2)), .int (F_motion (xs 1) (xs 2))], 102, xsh0, M2) _
  refine PL.go (k := 1) (s' := (xcmp .eq (F_motion (xs 1) (xs 2)) (F_motion (xs 1) (xs 2)) 1139 673, [some (.ref 999), some (.ref 0), some (.ref 56), some (.int 0)], [], 102, xsh0, M2)) rfl ?_
  refine PL.same ?_
  exact law_end xs _
set_option maxRecDepth 100000 in
set_option maxHeartbeats 4000000 in
theorem law_15 (xs : Nat → Int32) : PL xs 5 231 (675, [some (.ref 999), some (.ref 0), some (.ref 56), some (.int 0)], [], 102, xsh0, xM0) xfin := by
  refine PL.go (k := 11) (s' := (686, [some (.ref 999), some (.ref 0), some (.ref 56), some (.int 0)], [.int (xs 2), .int (xs 1), .ref 0], 102, xsh0, xM0)) rfl ?_
  refine PL.call (z := 118) (as := [.ref 0, .int (xs 1), .int (xs 2)]) (pc := 689) (pl := [some (.ref 999), some (.ref 0), some (.ref 56), some (.int 0)]) (st := []) (nz := 102) (sh := xsh0) (M := xM0) rfl (Nat.le_of_ble_eq_true rfl) ?_
  refine x_cls (wc_bind (xs 1) (xs 2)) (fun M1 hM1 => ⟨rfl, ?_⟩)
  show PL xs 5 231 (689, [some (.ref 999), some (.ref 0), some (.ref 56), some (.int 0)], [.int (F_bind (xs 1) (xs 2))], 102, xsh0, M1) _
  refine PL.go (k := 11) (s' := (700, [some (.ref 999), some (.ref 0), some (.ref 56), some (.int 0)], [.int (xs 2), .int (xs 1), .ref 56, .int (F_bind (xs 1) (xs 2))], 102, xsh0, M1)) rfl ?_
  refine PL.call (z := 193) (as := [.ref 56, .int (xs 1), .int (xs 2)]) (pc := 703) (pl := [some (.ref 999), some (.ref 0), some (.ref 56), some (.int 0)]) (st := [.int (F_bind (xs 1) (xs 2))]) (nz := 102) (sh := xsh0) (M := M1) rfl (Nat.le_of_ble_eq_true rfl) ?_
  refine x_mod (wm_bind (xs 1) (xs 2)) hM1 (fun M2 => ⟨rfl, ?_⟩)
  show PL xs 5 231 (703, [some (.ref 999), some (.ref 0), some (.ref 56), some (.int 0)], [.int (F_bind (xs 1) (xs 2)), .int (F_bind (xs 1) (xs 2))], 102, xsh0, M2) _
  refine PL.go (k := 1) (s' := (xcmp .eq (F_bind (xs 1) (xs 2)) (F_bind (xs 1) (xs 2)) 1139 706, [some (.ref 999), some (.ref 0), some (.ref 56), some (.int 0)], [], 102, xsh0, M2)) rfl ?_
  refine PL.same ?_
  exact law_end xs _
set_option maxRecDepth 100000 in
set_option maxHeartbeats 4000000 in
theorem law_16 (xs : Nat → Int32) : PL xs 5 231 (708, [some (.ref 999), some (.ref 0), some (.ref 56), some (.int 0)], [], 102, xsh0, xM0) xfin := by
  refine PL.go (k := 11) (s' := (719, [some (.ref 999), some (.ref 0), some (.ref 56), some (.int 0)], [.int (xs 2), .int (xs 1), .ref 0], 102, xsh0, xM0)) rfl ?_
  refine PL.call (z := 119) (as := [.ref 0, .int (xs 1), .int (xs 2)]) (pc := 722) (pl := [some (.ref 999), some (.ref 0), some (.ref 56), some (.int 0)]) (st := []) (nz := 102) (sh := xsh0) (M := xM0) rfl (Nat.le_of_ble_eq_true rfl) ?_
  refine x_cls (wc_release (xs 1) (xs 2)) (fun M1 hM1 => ⟨rfl, ?_⟩)
  show PL xs 5 231 (722, [some (.ref 999), some (.ref 0), some (.ref 56), some (.int 0)], [.int (F_release (xs 1) (xs 2))], 102, xsh0, M1) _
  refine PL.go (k := 11) (s' := (733, [some (.ref 999), some (.ref 0), some (.ref 56), some (.int 0)], [.int (xs 2), .int (xs 1), .ref 56, .int (F_release (xs 1) (xs 2))], 102, xsh0, M1)) rfl ?_
  refine PL.call (z := 194) (as := [.ref 56, .int (xs 1), .int (xs 2)]) (pc := 736) (pl := [some (.ref 999), some (.ref 0), some (.ref 56), some (.int 0)]) (st := [.int (F_release (xs 1) (xs 2))]) (nz := 102) (sh := xsh0) (M := M1) rfl (Nat.le_of_ble_eq_true rfl) ?_
  refine x_mod (wm_release (xs 1) (xs 2)) hM1 (fun M2 => ⟨rfl, ?_⟩)
  show PL xs 5 231 (736, [some (.ref 999), some (.ref 0), some (.ref 56), some (.int 0)], [.int (F_release (xs 1) (xs 2)), .int (F_release (xs 1) (xs 2))], 102, xsh0, M2) _
  refine PL.go (k := 1) (s' := (xcmp .eq (F_release (xs 1) (xs 2)) (F_release (xs 1) (xs 2)) 1139 739, [some (.ref 999), some (.ref 0), some (.ref 56), some (.int 0)], [], 102, xsh0, M2)) rfl ?_
  refine PL.same ?_
  exact law_end xs _
set_option maxRecDepth 100000 in
set_option maxHeartbeats 4000000 in
theorem law_17 (xs : Nat → Int32) : PL xs 5 231 (741, [some (.ref 999), some (.ref 0), some (.ref 56), some (.int 0)], [], 102, xsh0, xM0) xfin := by
  refine PL.go (k := 1) (s' := (742, [some (.ref 999), some (.ref 0), some (.ref 56), some (.int 0)], [.ref 0], 102, xsh0, xM0)) rfl ?_
  refine PL.call (z := 120) (as := [.ref 0]) (pc := 745) (pl := [some (.ref 999), some (.ref 0), some (.ref 56), some (.int 0)]) (st := []) (nz := 102) (sh := xsh0) (M := xM0) rfl (Nat.le_of_ble_eq_true rfl) ?_
  refine x_cls (wc_ballot ) (fun M1 hM1 => ⟨rfl, ?_⟩)
  show PL xs 5 231 (745, [some (.ref 999), some (.ref 0), some (.ref 56), some (.int 0)], [.int (-1)], 102, xsh0, M1) _
  refine PL.go (k := 1) (s' := (746, [some (.ref 999), some (.ref 0), some (.ref 56), some (.int 0)], [.ref 56, .int (-1)], 102, xsh0, M1)) rfl ?_
  refine PL.call (z := 199) (as := [.ref 56]) (pc := 749) (pl := [some (.ref 999), some (.ref 0), some (.ref 56), some (.int 0)]) (st := [.int (-1)]) (nz := 102) (sh := xsh0) (M := M1) rfl (Nat.le_of_ble_eq_true rfl) ?_
  refine x_mod (wm_ballot ) hM1 (fun M2 => ⟨rfl, ?_⟩)
  show PL xs 5 231 (749, [some (.ref 999), some (.ref 0), some (.ref 56), some (.int 0)], [.int (-1), .int (-1)], 102, xsh0, M2) _
  refine PL.go (k := 1) (s' := (xcmp .eq ((-1)) ((-1)) 1139 752, [some (.ref 999), some (.ref 0), some (.ref 56), some (.int 0)], [], 102, xsh0, M2)) rfl ?_
  refine PL.same ?_
  exact law_end xs _
set_option maxRecDepth 100000 in
set_option maxHeartbeats 4000000 in
theorem law_18 (xs : Nat → Int32) : PL xs 5 231 (754, [some (.ref 999), some (.ref 0), some (.ref 56), some (.int 0)], [], 102, xsh0, xM0) xfin := by
  refine PL.go (k := 6) (s' := (760, [some (.ref 999), some (.ref 0), some (.ref 56), some (.int 0)], [.int (xs 1), .ref 0], 102, xsh0, xM0)) rfl ?_
  refine PL.call (z := 121) (as := [.ref 0, .int (xs 1)]) (pc := 763) (pl := [some (.ref 999), some (.ref 0), some (.ref 56), some (.int 0)]) (st := []) (nz := 102) (sh := xsh0) (M := xM0) rfl (Nat.le_of_ble_eq_true rfl) ?_
  refine x_cls (wc_had (xs 1)) (fun M1 hM1 => ⟨rfl, ?_⟩)
  show PL xs 5 231 (763, [some (.ref 999), some (.ref 0), some (.ref 56), some (.int 0)], [.int (F_had (xs 1))], 102, xsh0, M1) _
  refine PL.go (k := 6) (s' := (769, [some (.ref 999), some (.ref 0), some (.ref 56), some (.int 0)], [.int (xs 1), .ref 56, .int (F_had (xs 1))], 102, xsh0, M1)) rfl ?_
  refine PL.call (z := 200) (as := [.ref 56, .int (xs 1)]) (pc := 772) (pl := [some (.ref 999), some (.ref 0), some (.ref 56), some (.int 0)]) (st := [.int (F_had (xs 1))]) (nz := 102) (sh := xsh0) (M := M1) rfl (Nat.le_of_ble_eq_true rfl) ?_
  refine x_mod (wm_had (xs 1)) hM1 (fun M2 => ⟨rfl, ?_⟩)
  show PL xs 5 231 (772, [some (.ref 999), some (.ref 0), some (.ref 56), some (.int 0)], [.int (F_had (xs 1)), .int (F_had (xs 1))], 102, xsh0, M2) _
  refine PL.go (k := 1) (s' := (xcmp .eq (F_had (xs 1)) (F_had (xs 1)) 1139 775, [some (.ref 999), some (.ref 0), some (.ref 56), some (.int 0)], [], 102, xsh0, M2)) rfl ?_
  refine PL.same ?_
  exact law_end xs _
set_option maxRecDepth 100000 in
set_option maxHeartbeats 4000000 in
theorem law_19 (xs : Nat → Int32) : PL xs 5 231 (777, [some (.ref 999), some (.ref 0), some (.ref 56), some (.int 0)], [], 102, xsh0, xM0) xfin := by
  refine PL.go (k := 1) (s' := (778, [some (.ref 999), some (.ref 0), some (.ref 56), some (.int 0)], [.ref 0], 102, xsh0, xM0)) rfl ?_
  refine PL.call (z := 122) (as := [.ref 0]) (pc := 781) (pl := [some (.ref 999), some (.ref 0), some (.ref 56), some (.int 0)]) (st := []) (nz := 102) (sh := xsh0) (M := xM0) rfl (Nat.le_of_ble_eq_true rfl) ?_
  refine x_cls (wc_foresee ) (fun M1 hM1 => ⟨rfl, ?_⟩)
  show PL xs 5 231 (781, [some (.ref 999), some (.ref 0), some (.ref 56), some (.int 0)], [.int (-1)], 102, xsh0, M1) _
  refine PL.go (k := 1) (s' := (782, [some (.ref 999), some (.ref 0), some (.ref 56), some (.int 0)], [.ref 56, .int (-1)], 102, xsh0, M1)) rfl ?_
  refine PL.call (z := 202) (as := [.ref 56]) (pc := 785) (pl := [some (.ref 999), some (.ref 0), some (.ref 56), some (.int 0)]) (st := [.int (-1)]) (nz := 102) (sh := xsh0) (M := M1) rfl (Nat.le_of_ble_eq_true rfl) ?_
  refine x_mod (wm_foresee ) hM1 (fun M2 => ⟨rfl, ?_⟩)
  show PL xs 5 231 (785, [some (.ref 999), some (.ref 0), some (.ref 56), some (.int 0)], [.int (-1), .int (-1)], 102, xsh0, M2) _
  refine PL.go (k := 1) (s' := (xcmp .eq ((-1)) ((-1)) 1139 788, [some (.ref 999), some (.ref 0), some (.ref 56), some (.int 0)], [], 102, xsh0, M2)) rfl ?_
  refine PL.same ?_
  exact law_end xs _
set_option maxRecDepth 100000 in
set_option maxHeartbeats 4000000 in
theorem law_20 (xs : Nat → Int32) : PL xs 5 231 (790, [some (.ref 999), some (.ref 0), some (.ref 56), some (.int 0)], [], 102, xsh0, xM0) xfin := by
  refine PL.go (k := 1) (s' := (791, [some (.ref 999), some (.ref 0), some (.ref 56), some (.int 0)], [.ref 0], 102, xsh0, xM0)) rfl ?_
  refine PL.call (z := 123) (as := [.ref 0]) (pc := 794) (pl := [some (.ref 999), some (.ref 0), some (.ref 56), some (.int 0)]) (st := []) (nz := 102) (sh := xsh0) (M := xM0) rfl (Nat.le_of_ble_eq_true rfl) ?_
  refine x_cls (wc_needs ) (fun M1 hM1 => ⟨rfl, ?_⟩)
  show PL xs 5 231 (794, [some (.ref 999), some (.ref 0), some (.ref 56), some (.int 0)], [.int 8], 102, xsh0, M1) _
  refine PL.go (k := 1) (s' := (795, [some (.ref 999), some (.ref 0), some (.ref 56), some (.int 0)], [.ref 56, .int 8], 102, xsh0, M1)) rfl ?_
  refine PL.call (z := 203) (as := [.ref 56]) (pc := 798) (pl := [some (.ref 999), some (.ref 0), some (.ref 56), some (.int 0)]) (st := [.int 8]) (nz := 102) (sh := xsh0) (M := M1) rfl (Nat.le_of_ble_eq_true rfl) ?_
  refine x_mod (wm_needs ) hM1 (fun M2 => ⟨rfl, ?_⟩)
  show PL xs 5 231 (798, [some (.ref 999), some (.ref 0), some (.ref 56), some (.int 0)], [.int 8, .int 8], 102, xsh0, M2) _
  refine PL.go (k := 1) (s' := (xcmp .eq (8) (8) 1139 801, [some (.ref 999), some (.ref 0), some (.ref 56), some (.int 0)], [], 102, xsh0, M2)) rfl ?_
  refine PL.same ?_
  exact law_end xs _
set_option maxRecDepth 100000 in
set_option maxHeartbeats 4000000 in
theorem law_21 (xs : Nat → Int32) : PL xs 5 231 (803, [some (.ref 999), some (.ref 0), some (.ref 56), some (.int 0)], [], 102, xsh0, xM0) xfin := by
  refine PL.go (k := 1) (s' := (804, [some (.ref 999), some (.ref 0), some (.ref 56), some (.int 0)], [.ref 0], 102, xsh0, xM0)) rfl ?_
  refine PL.call (z := 124) (as := [.ref 0]) (pc := 807) (pl := [some (.ref 999), some (.ref 0), some (.ref 56), some (.int 0)]) (st := []) (nz := 102) (sh := xsh0) (M := xM0) rfl (Nat.le_of_ble_eq_true rfl) ?_
  refine x_cls (wc_turned ) (fun M1 hM1 => ⟨rfl, ?_⟩)
  show PL xs 5 231 (807, [some (.ref 999), some (.ref 0), some (.ref 56), some (.int 0)], [.int (-1)], 102, xsh0, M1) _
  refine PL.go (k := 1) (s' := (808, [some (.ref 999), some (.ref 0), some (.ref 56), some (.int 0)], [.ref 56, .int (-1)], 102, xsh0, M1)) rfl ?_
  refine PL.call (z := 204) (as := [.ref 56]) (pc := 811) (pl := [some (.ref 999), some (.ref 0), some (.ref 56), some (.int 0)]) (st := [.int (-1)]) (nz := 102) (sh := xsh0) (M := M1) rfl (Nat.le_of_ble_eq_true rfl) ?_
  refine x_mod (wm_turned ) hM1 (fun M2 => ⟨rfl, ?_⟩)
  show PL xs 5 231 (811, [some (.ref 999), some (.ref 0), some (.ref 56), some (.int 0)], [.int (-1), .int (-1)], 102, xsh0, M2) _
  refine PL.go (k := 1) (s' := (xcmp .eq ((-1)) ((-1)) 1139 814, [some (.ref 999), some (.ref 0), some (.ref 56), some (.int 0)], [], 102, xsh0, M2)) rfl ?_
  refine PL.same ?_
  exact law_end xs _
set_option maxRecDepth 100000 in
set_option maxHeartbeats 4000000 in
theorem law_22 (xs : Nat → Int32) : PL xs 5 231 (816, [some (.ref 999), some (.ref 0), some (.ref 56), some (.int 0)], [], 102, xsh0, xM0) xfin := by
  refine PL.go (k := 11) (s' := (827, [some (.ref 999), some (.ref 0), some (.ref 56), some (.int 0)], [.int (xs 2), .int (xs 1), .ref 0], 102, xsh0, xM0)) rfl ?_
  refine PL.call (z := 125) (as := [.ref 0, .int (xs 1), .int (xs 2)]) (pc := 830) (pl := [some (.ref 999), some (.ref 0), some (.ref 56), some (.int 0)]) (st := []) (nz := 102) (sh := xsh0) (M := xM0) rfl (Nat.le_of_ble_eq_true rfl) ?_
  refine x_cls (wc_group (xs 1) (xs 2)) (fun M1 hM1 => ⟨rfl, ?_⟩)
  show PL xs 5 231 (830, [some (.ref 999), some (.ref 0), some (.ref 56), some (.int 0)], [.int (F_group (xs 1) (xs 2))], 102, xsh0, M1) _
  refine PL.go (k := 11) (s' := (841, [some (.ref 999), some (.ref 0), some (.ref 56), some (.int 0)], [.int (xs 2), .int (xs 1), .ref 56, .int (F_group (xs 1) (xs 2))], 102, xsh0, M1)) rfl ?_
  refine PL.call (z := 207) (as := [.ref 56, .int (xs 1), .int (xs 2)]) (pc := 844) (pl := [some (.ref 999), some (.ref 0), some (.ref 56), some (.int 0)]) (st := [.int (F_group (xs 1) (xs 2))]) (nz := 102) (sh := xsh0) (M := M1) rfl (Nat.le_of_ble_eq_true rfl) ?_
  refine x_mod (wm_group (xs 1) (xs 2)) hM1 (fun M2 => ⟨rfl, ?_⟩)
  show PL xs 5 231 (844, [some (.ref 999), some (.ref 0), some (.ref 56), some (.int 0)], [.int (F_group (xs 1) (xs 2)), .int (F_group (xs 1) (xs 2))], 102, xsh0, M2) _
  refine PL.go (k := 1) (s' := (xcmp .eq (F_group (xs 1) (xs 2)) (F_group (xs 1) (xs 2)) 1139 847, [some (.ref 999), some (.ref 0), some (.ref 56), some (.int 0)], [], 102, xsh0, M2)) rfl ?_
  refine PL.same ?_
  exact law_end xs _
set_option maxRecDepth 100000 in
set_option maxHeartbeats 4000000 in
theorem law_23 (xs : Nat → Int32) : PL xs 5 231 (849, [some (.ref 999), some (.ref 0), some (.ref 56), some (.int 0)], [], 102, xsh0, xM0) xfin := by
  refine PL.go (k := 6) (s' := (855, [some (.ref 999), some (.ref 0), some (.ref 56), some (.int 0)], [.int (xs 1), .ref 0], 102, xsh0, xM0)) rfl ?_
  refine PL.call (z := 126) (as := [.ref 0, .int (xs 1)]) (pc := 858) (pl := [some (.ref 999), some (.ref 0), some (.ref 56), some (.int 0)]) (st := []) (nz := 102) (sh := xsh0) (M := xM0) rfl (Nat.le_of_ble_eq_true rfl) ?_
  refine x_cls (wc_offer (xs 1)) (fun M1 hM1 => ⟨rfl, ?_⟩)
  show PL xs 5 231 (858, [some (.ref 999), some (.ref 0), some (.ref 56), some (.int 0)], [.int (F_offer (xs 1))], 102, xsh0, M1) _
  refine PL.go (k := 6) (s' := (864, [some (.ref 999), some (.ref 0), some (.ref 56), some (.int 0)], [.int (xs 1), .ref 56, .int (F_offer (xs 1))], 102, xsh0, M1)) rfl ?_
  refine PL.call (z := 208) (as := [.ref 56, .int (xs 1)]) (pc := 867) (pl := [some (.ref 999), some (.ref 0), some (.ref 56), some (.int 0)]) (st := [.int (F_offer (xs 1))]) (nz := 102) (sh := xsh0) (M := M1) rfl (Nat.le_of_ble_eq_true rfl) ?_
  refine x_mod (wm_offer (xs 1)) hM1 (fun M2 => ⟨rfl, ?_⟩)
  show PL xs 5 231 (867, [some (.ref 999), some (.ref 0), some (.ref 56), some (.int 0)], [.int (F_offer (xs 1)), .int (F_offer (xs 1))], 102, xsh0, M2) _
  refine PL.go (k := 1) (s' := (xcmp .eq (F_offer (xs 1)) (F_offer (xs 1)) 1139 870, [some (.ref 999), some (.ref 0), some (.ref 56), some (.int 0)], [], 102, xsh0, M2)) rfl ?_
  refine PL.same ?_
  exact law_end xs _
set_option maxRecDepth 100000 in
set_option maxHeartbeats 4000000 in
theorem law_24 (xs : Nat → Int32) : PL xs 5 231 (872, [some (.ref 999), some (.ref 0), some (.ref 56), some (.int 0)], [], 102, xsh0, xM0) xfin := by
  refine PL.go (k := 16) (s' := (888, [some (.ref 999), some (.ref 0), some (.ref 56), some (.int 0)], [.int (xs 3), .int (xs 2), .int (xs 1), .ref 0], 102, xsh0, xM0)) rfl ?_
  refine PL.call (z := 127) (as := [.ref 0, .int (xs 1), .int (xs 2), .int (xs 3)]) (pc := 891) (pl := [some (.ref 999), some (.ref 0), some (.ref 56), some (.int 0)]) (st := []) (nz := 102) (sh := xsh0) (M := xM0) rfl (Nat.le_of_ble_eq_true rfl) ?_
  refine x_cls (wc_gets (xs 1) (xs 2) (xs 3)) (fun M1 hM1 => ⟨rfl, ?_⟩)
  show PL xs 5 231 (891, [some (.ref 999), some (.ref 0), some (.ref 56), some (.int 0)], [.int (F_gets (xs 1) (xs 2) (xs 3))], 102, xsh0, M1) _
  refine PL.go (k := 16) (s' := (907, [some (.ref 999), some (.ref 0), some (.ref 56), some (.int 0)], [.int (xs 3), .int (xs 2), .int (xs 1), .ref 56, .int (F_gets (xs 1) (xs 2) (xs 3))], 102, xsh0, M1)) rfl ?_
  refine PL.call (z := 209) (as := [.ref 56, .int (xs 1), .int (xs 2), .int (xs 3)]) (pc := 910) (pl := [some (.ref 999), some (.ref 0), some (.ref 56), some (.int 0)]) (st := [.int (F_gets (xs 1) (xs 2) (xs 3))]) (nz := 102) (sh := xsh0) (M := M1) rfl (Nat.le_of_ble_eq_true rfl) ?_
  refine x_mod (wm_gets (xs 1) (xs 2) (xs 3)) hM1 (fun M2 => ⟨rfl, ?_⟩)
  show PL xs 5 231 (910, [some (.ref 999), some (.ref 0), some (.ref 56), some (.int 0)], [.int (F_gets (xs 1) (xs 2) (xs 3)), .int (F_gets (xs 1) (xs 2) (xs 3))], 102, xsh0, M2) _
  refine PL.go (k := 1) (s' := (xcmp .eq (F_gets (xs 1) (xs 2) (xs 3)) (F_gets (xs 1) (xs 2) (xs 3)) 1139 913, [some (.ref 999), some (.ref 0), some (.ref 56), some (.int 0)], [], 102, xsh0, M2)) rfl ?_
  refine PL.same ?_
  exact law_end xs _
set_option maxRecDepth 100000 in
set_option maxHeartbeats 4000000 in
theorem law_25 (xs : Nat → Int32) : PL xs 5 231 (915, [some (.ref 999), some (.ref 0), some (.ref 56), some (.int 0)], [], 102, xsh0, xM0) xfin := by
  refine PL.go (k := 11) (s' := (926, [some (.ref 999), some (.ref 0), some (.ref 56), some (.int 0)], [.int (xs 2), .int (xs 1), .ref 0], 102, xsh0, xM0)) rfl ?_
  refine PL.call (z := 128) (as := [.ref 0, .int (xs 1), .int (xs 2)]) (pc := 929) (pl := [some (.ref 999), some (.ref 0), some (.ref 56), some (.int 0)]) (st := []) (nz := 102) (sh := xsh0) (M := xM0) rfl (Nat.le_of_ble_eq_true rfl) ?_
  refine x_cls (wc_bargain (xs 1) (xs 2)) (fun M1 hM1 => ⟨rfl, ?_⟩)
  show PL xs 5 231 (929, [some (.ref 999), some (.ref 0), some (.ref 56), some (.int 0)], [.int (F_bargain (xs 1) (xs 2))], 102, xsh0, M1) _
  refine PL.go (k := 11) (s' := (940, [some (.ref 999), some (.ref 0), some (.ref 56), some (.int 0)], [.int (xs 2), .int (xs 1), .ref 56, .int (F_bargain (xs 1) (xs 2))], 102, xsh0, M1)) rfl ?_
  refine PL.call (z := 212) (as := [.ref 56, .int (xs 1), .int (xs 2)]) (pc := 943) (pl := [some (.ref 999), some (.ref 0), some (.ref 56), some (.int 0)]) (st := [.int (F_bargain (xs 1) (xs 2))]) (nz := 102) (sh := xsh0) (M := M1) rfl (Nat.le_of_ble_eq_true rfl) ?_
  refine x_mod (wm_bargain (xs 1) (xs 2)) hM1 (fun M2 => ⟨rfl, ?_⟩)
  show PL xs 5 231 (943, [some (.ref 999), some (.ref 0), some (.ref 56), some (.int 0)], [.int (F_bargain (xs 1) (xs 2)), .int (F_bargain (xs 1) (xs 2))], 102, xsh0, M2) _
  refine PL.go (k := 1) (s' := (xcmp .eq (F_bargain (xs 1) (xs 2)) (F_bargain (xs 1) (xs 2)) 1139 946, [some (.ref 999), some (.ref 0), some (.ref 56), some (.int 0)], [], 102, xsh0, M2)) rfl ?_
  refine PL.same ?_
  exact law_end xs _
set_option maxRecDepth 100000 in
set_option maxHeartbeats 4000000 in
theorem law_26 (xs : Nat → Int32) : PL xs 5 231 (948, [some (.ref 999), some (.ref 0), some (.ref 56), some (.int 0)], [], 102, xsh0, xM0) xfin := by
  refine PL.go (k := 6) (s' := (954, [some (.ref 999), some (.ref 0), some (.ref 56), some (.int 0)], [.int (xs 1), .ref 0], 102, xsh0, xM0)) rfl ?_
  refine PL.call (z := 129) (as := [.ref 0, .int (xs 1)]) (pc := 957) (pl := [some (.ref 999), some (.ref 0), some (.ref 56), some (.int 0)]) (st := []) (nz := 102) (sh := xsh0) (M := xM0) rfl (Nat.le_of_ble_eq_true rfl) ?_
  refine x_cls (wc_breaks (xs 1)) (fun M1 hM1 => ⟨rfl, ?_⟩)
  show PL xs 5 231 (957, [some (.ref 999), some (.ref 0), some (.ref 56), some (.int 0)], [.int (F_breaks (xs 1))], 102, xsh0, M1) _
  refine PL.go (k := 6) (s' := (963, [some (.ref 999), some (.ref 0), some (.ref 56), some (.int 0)], [.int (xs 1), .ref 56, .int (F_breaks (xs 1))], 102, xsh0, M1)) rfl ?_
  refine PL.call (z := 213) (as := [.ref 56, .int (xs 1)]) (pc := 966) (pl := [some (.ref 999), some (.ref 0), some (.ref 56), some (.int 0)]) (st := [.int (F_breaks (xs 1))]) (nz := 102) (sh := xsh0) (M := M1) rfl (Nat.le_of_ble_eq_true rfl) ?_
  refine x_mod (wm_breaks (xs 1)) hM1 (fun M2 => ⟨rfl, ?_⟩)
  show PL xs 5 231 (966, [some (.ref 999), some (.ref 0), some (.ref 56), some (.int 0)], [.int (F_breaks (xs 1)), .int (F_breaks (xs 1))], 102, xsh0, M2) _
  refine PL.go (k := 1) (s' := (xcmp .eq (F_breaks (xs 1)) (F_breaks (xs 1)) 1139 969, [some (.ref 999), some (.ref 0), some (.ref 56), some (.int 0)], [], 102, xsh0, M2)) rfl ?_
  refine PL.same ?_
  exact law_end xs _
set_option maxRecDepth 100000 in
set_option maxHeartbeats 4000000 in
theorem law_27 (xs : Nat → Int32) : PL xs 5 231 (971, [some (.ref 999), some (.ref 0), some (.ref 56), some (.int 0)], [], 102, xsh0, xM0) xfin := by
  refine PL.go (k := 1) (s' := (972, [some (.ref 999), some (.ref 0), some (.ref 56), some (.int 0)], [.ref 0], 102, xsh0, xM0)) rfl ?_
  refine PL.call (z := 130) (as := [.ref 0]) (pc := 975) (pl := [some (.ref 999), some (.ref 0), some (.ref 56), some (.int 0)]) (st := []) (nz := 102) (sh := xsh0) (M := xM0) rfl (Nat.le_of_ble_eq_true rfl) ?_
  refine x_cls (wc_plank ) (fun M1 hM1 => ⟨rfl, ?_⟩)
  show PL xs 5 231 (975, [some (.ref 999), some (.ref 0), some (.ref 56), some (.int 0)], [.int 0], 102, xsh0, M1) _
  refine PL.go (k := 1) (s' := (976, [some (.ref 999), some (.ref 0), some (.ref 56), some (.int 0)], [.ref 56, .int 0], 102, xsh0, M1)) rfl ?_
  refine PL.call (z := 215) (as := [.ref 56]) (pc := 979) (pl := [some (.ref 999), some (.ref 0), some (.ref 56), some (.int 0)]) (st := [.int 0]) (nz := 102) (sh := xsh0) (M := M1) rfl (Nat.le_of_ble_eq_true rfl) ?_
  refine x_mod (wm_plank ) hM1 (fun M2 => ⟨rfl, ?_⟩)
  show PL xs 5 231 (979, [some (.ref 999), some (.ref 0), some (.ref 56), some (.int 0)], [.int 0, .int 0], 102, xsh0, M2) _
  refine PL.go (k := 1) (s' := (xcmp .eq (0) (0) 1139 982, [some (.ref 999), some (.ref 0), some (.ref 56), some (.int 0)], [], 102, xsh0, M2)) rfl ?_
  refine PL.same ?_
  exact law_end xs _
set_option maxRecDepth 100000 in
set_option maxHeartbeats 4000000 in
theorem law_28 (xs : Nat → Int32) : PL xs 5 231 (984, [some (.ref 999), some (.ref 0), some (.ref 56), some (.int 0)], [], 102, xsh0, xM0) xfin := by
  refine PL.go (k := 16) (s' := (1000, [some (.ref 999), some (.ref 0), some (.ref 56), some (.int 0)], [.int (xs 3), .int (xs 2), .int (xs 1), .ref 0], 102, xsh0, xM0)) rfl ?_
  refine PL.call (z := 131) (as := [.ref 0, .int (xs 1), .int (xs 2), .int (xs 3)]) (pc := 1003) (pl := [some (.ref 999), some (.ref 0), some (.ref 56), some (.int 0)]) (st := []) (nz := 102) (sh := xsh0) (M := xM0) rfl (Nat.le_of_ble_eq_true rfl) ?_
  refine x_cls (wc_amend (xs 1) (xs 2) (xs 3)) (fun M1 hM1 => ⟨rfl, ?_⟩)
  show PL xs 5 231 (1003, [some (.ref 999), some (.ref 0), some (.ref 56), some (.int 0)], [.int (F_amend (xs 1) (xs 2) (xs 3))], 102, xsh0, M1) _
  refine PL.go (k := 16) (s' := (1019, [some (.ref 999), some (.ref 0), some (.ref 56), some (.int 0)], [.int (xs 3), .int (xs 2), .int (xs 1), .ref 56, .int (F_amend (xs 1) (xs 2) (xs 3))], 102, xsh0, M1)) rfl ?_
  refine PL.call (z := 216) (as := [.ref 56, .int (xs 1), .int (xs 2), .int (xs 3)]) (pc := 1022) (pl := [some (.ref 999), some (.ref 0), some (.ref 56), some (.int 0)]) (st := [.int (F_amend (xs 1) (xs 2) (xs 3))]) (nz := 102) (sh := xsh0) (M := M1) rfl (Nat.le_of_ble_eq_true rfl) ?_
  refine x_mod (wm_amend (xs 1) (xs 2) (xs 3)) hM1 (fun M2 => ⟨rfl, ?_⟩)
  show PL xs 5 231 (1022, [some (.ref 999), some (.ref 0), some (.ref 56), some (.int 0)], [.int (F_amend (xs 1) (xs 2) (xs 3)), .int (F_amend (xs 1) (xs 2) (xs 3))], 102, xsh0, M2) _
  refine PL.go (k := 1) (s' := (xcmp .eq (F_amend (xs 1) (xs 2) (xs 3)) (F_amend (xs 1) (xs 2) (xs 3)) 1139 1025, [some (.ref 999), some (.ref 0), some (.ref 56), some (.int 0)], [], 102, xsh0, M2)) rfl ?_
  refine PL.same ?_
  exact law_end xs _
set_option maxRecDepth 100000 in
set_option maxHeartbeats 4000000 in
theorem law_29 (xs : Nat → Int32) : PL xs 5 231 (1027, [some (.ref 999), some (.ref 0), some (.ref 56), some (.int 0)], [], 102, xsh0, xM0) xfin := by
  refine PL.go (k := 16) (s' := (1043, [some (.ref 999), some (.ref 0), some (.ref 56), some (.int 0)], [.int (xs 3), .int (xs 2), .int (xs 1), .ref 0], 102, xsh0, xM0)) rfl ?_
  refine PL.call (z := 132) (as := [.ref 0, .int (xs 1), .int (xs 2), .int (xs 3)]) (pc := 1046) (pl := [some (.ref 999), some (.ref 0), some (.ref 56), some (.int 0)]) (st := []) (nz := 102) (sh := xsh0) (M := xM0) rfl (Nat.le_of_ble_eq_true rfl) ?_
  refine x_cls (wc_strike (xs 1) (xs 2) (xs 3)) (fun M1 hM1 => ⟨rfl, ?_⟩)
  show PL xs 5 231 (1046, [some (.ref 999), some (.ref 0), some (.ref 56), some (.int 0)], [.int (F_strike (xs 1) (xs 2) (xs 3))], 102, xsh0, M1) _
  refine PL.go (k := 16) (s' := (1062, [some (.ref 999), some (.ref 0), some (.ref 56), some (.int 0)], [.int (xs 3), .int (xs 2), .int (xs 1), .ref 56, .int (F_strike (xs 1) (xs 2) (xs 3))], 102, xsh0, M1)) rfl ?_
  refine PL.call (z := 217) (as := [.ref 56, .int (xs 1), .int (xs 2), .int (xs 3)]) (pc := 1065) (pl := [some (.ref 999), some (.ref 0), some (.ref 56), some (.int 0)]) (st := [.int (F_strike (xs 1) (xs 2) (xs 3))]) (nz := 102) (sh := xsh0) (M := M1) rfl (Nat.le_of_ble_eq_true rfl) ?_
  refine x_mod (wm_strike (xs 1) (xs 2) (xs 3)) hM1 (fun M2 => ⟨rfl, ?_⟩)
  show PL xs 5 231 (1065, [some (.ref 999), some (.ref 0), some (.ref 56), some (.int 0)], [.int (F_strike (xs 1) (xs 2) (xs 3)), .int (F_strike (xs 1) (xs 2) (xs 3))], 102, xsh0, M2) _
  refine PL.go (k := 1) (s' := (xcmp .eq (F_strike (xs 1) (xs 2) (xs 3)) (F_strike (xs 1) (xs 2) (xs 3)) 1139 1068, [some (.ref 999), some (.ref 0), some (.ref 56), some (.int 0)], [], 102, xsh0, M2)) rfl ?_
  refine PL.same ?_
  exact law_end xs _
set_option maxRecDepth 100000 in
set_option maxHeartbeats 4000000 in
theorem law_30 (xs : Nat → Int32) : PL xs 5 231 (1070, [some (.ref 999), some (.ref 0), some (.ref 56), some (.int 0)], [], 102, xsh0, xM0) xfin := by
  refine PL.go (k := 6) (s' := (1076, [some (.ref 999), some (.ref 0), some (.ref 56), some (.int 0)], [.int (xs 1), .ref 0], 102, xsh0, xM0)) rfl ?_
  refine PL.call (z := 133) (as := [.ref 0, .int (xs 1)]) (pc := 1079) (pl := [some (.ref 999), some (.ref 0), some (.ref 56), some (.int 0)]) (st := []) (nz := 102) (sh := xsh0) (M := xM0) rfl (Nat.le_of_ble_eq_true rfl) ?_
  refine x_cls (wc_platform (xs 1)) (fun M1 hM1 => ⟨rfl, ?_⟩)
  show PL xs 5 231 (1079, [some (.ref 999), some (.ref 0), some (.ref 56), some (.int 0)], [.int (F_platform (xs 1))], 102, xsh0, M1) _
  refine PL.go (k := 6) (s' := (1085, [some (.ref 999), some (.ref 0), some (.ref 56), some (.int 0)], [.int (xs 1), .ref 56, .int (F_platform (xs 1))], 102, xsh0, M1)) rfl ?_
  refine PL.call (z := 218) (as := [.ref 56, .int (xs 1)]) (pc := 1088) (pl := [some (.ref 999), some (.ref 0), some (.ref 56), some (.int 0)]) (st := [.int (F_platform (xs 1))]) (nz := 102) (sh := xsh0) (M := M1) rfl (Nat.le_of_ble_eq_true rfl) ?_
  refine x_mod (wm_platform (xs 1)) hM1 (fun M2 => ⟨rfl, ?_⟩)
  show PL xs 5 231 (1088, [some (.ref 999), some (.ref 0), some (.ref 56), some (.int 0)], [.int (F_platform (xs 1)), .int (F_platform (xs 1))], 102, xsh0, M2) _
  refine PL.go (k := 1) (s' := (xcmp .eq (F_platform (xs 1)) (F_platform (xs 1)) 1139 1091, [some (.ref 999), some (.ref 0), some (.ref 56), some (.int 0)], [], 102, xsh0, M2)) rfl ?_
  refine PL.same ?_
  exact law_end xs _
set_option maxRecDepth 100000 in
set_option maxHeartbeats 4000000 in
theorem law_31 (xs : Nat → Int32) : PL xs 5 231 (1093, [some (.ref 999), some (.ref 0), some (.ref 56), some (.int 0)], [], 102, xsh0, xM0) xfin := by
  refine PL.go (k := 6) (s' := (1099, [some (.ref 999), some (.ref 0), some (.ref 56), some (.int 0)], [.int (xs 1), .ref 0], 102, xsh0, xM0)) rfl ?_
  refine PL.call (z := 134) (as := [.ref 0, .int (xs 1)]) (pc := 1102) (pl := [some (.ref 999), some (.ref 0), some (.ref 56), some (.int 0)]) (st := []) (nz := 102) (sh := xsh0) (M := xM0) rfl (Nat.le_of_ble_eq_true rfl) ?_
  refine x_cls (wc_taken (xs 1)) (fun M1 hM1 => ⟨rfl, ?_⟩)
  show PL xs 5 231 (1102, [some (.ref 999), some (.ref 0), some (.ref 56), some (.int 0)], [.int (F_taken (xs 1))], 102, xsh0, M1) _
  refine PL.go (k := 6) (s' := (1108, [some (.ref 999), some (.ref 0), some (.ref 56), some (.int 0)], [.int (xs 1), .ref 56, .int (F_taken (xs 1))], 102, xsh0, M1)) rfl ?_
  refine PL.call (z := 219) (as := [.ref 56, .int (xs 1)]) (pc := 1111) (pl := [some (.ref 999), some (.ref 0), some (.ref 56), some (.int 0)]) (st := [.int (F_taken (xs 1))]) (nz := 102) (sh := xsh0) (M := M1) rfl (Nat.le_of_ble_eq_true rfl) ?_
  refine x_mod (wm_taken (xs 1)) hM1 (fun M2 => ⟨rfl, ?_⟩)
  show PL xs 5 231 (1111, [some (.ref 999), some (.ref 0), some (.ref 56), some (.int 0)], [.int (F_taken (xs 1)), .int (F_taken (xs 1))], 102, xsh0, M2) _
  refine PL.go (k := 1) (s' := (xcmp .eq (F_taken (xs 1)) (F_taken (xs 1)) 1139 1114, [some (.ref 999), some (.ref 0), some (.ref 56), some (.int 0)], [], 102, xsh0, M2)) rfl ?_
  refine PL.same ?_
  exact law_end xs _
set_option maxRecDepth 100000 in
set_option maxHeartbeats 4000000 in
theorem law_32 (xs : Nat → Int32) : PL xs 5 231 (1116, [some (.ref 999), some (.ref 0), some (.ref 56), some (.int 0)], [], 102, xsh0, xM0) xfin := by
  refine PL.go (k := 6) (s' := (1122, [some (.ref 999), some (.ref 0), some (.ref 56), some (.int 0)], [.int (xs 1), .ref 0], 102, xsh0, xM0)) rfl ?_
  refine PL.call (z := 135) (as := [.ref 0, .int (xs 1)]) (pc := 1125) (pl := [some (.ref 999), some (.ref 0), some (.ref 56), some (.int 0)]) (st := []) (nz := 102) (sh := xsh0) (M := xM0) rfl (Nat.le_of_ble_eq_true rfl) ?_
  refine x_cls (wc_count (xs 1)) (fun M1 hM1 => ⟨rfl, ?_⟩)
  show PL xs 5 231 (1125, [some (.ref 999), some (.ref 0), some (.ref 56), some (.int 0)], [.int (F_count (xs 1))], 102, xsh0, M1) _
  refine PL.go (k := 6) (s' := (1131, [some (.ref 999), some (.ref 0), some (.ref 56), some (.int 0)], [.int (xs 1), .ref 56, .int (F_count (xs 1))], 102, xsh0, M1)) rfl ?_
  refine PL.call (z := 220) (as := [.ref 56, .int (xs 1)]) (pc := 1134) (pl := [some (.ref 999), some (.ref 0), some (.ref 56), some (.int 0)]) (st := [.int (F_count (xs 1))]) (nz := 102) (sh := xsh0) (M := M1) rfl (Nat.le_of_ble_eq_true rfl) ?_
  refine x_mod (wm_count (xs 1)) hM1 (fun M2 => ⟨rfl, ?_⟩)
  show PL xs 5 231 (1134, [some (.ref 999), some (.ref 0), some (.ref 56), some (.int 0)], [.int (F_count (xs 1)), .int (F_count (xs 1))], 102, xsh0, M2) _
  refine PL.go (k := 1) (s' := (xcmp .eq (F_count (xs 1)) (F_count (xs 1)) 1139 1137, [some (.ref 999), some (.ref 0), some (.ref 56), some (.int 0)], [], 102, xsh0, M2)) rfl ?_
  refine PL.same ?_
  exact law_end xs _
