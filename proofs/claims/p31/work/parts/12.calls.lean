/-! SOUNDNESS, 7: calls and returns -/
theorem xEx.warm {G : xG} {xs : Nat → Int32} {L : Nat} {A : Nat → Prop} {s U : State} {H : Heap} (hW : s.WarmedH U.vm) (h : xEx G xs L A s H) : xEx G xs L A U H :=
  ⟨h.1.moved hW.alike, fun j hj => (h.2.1 j hj).warm hW, h.2.2.1.moved hW.alike, h.2.2.2.1.moved hW.alike, h.2.2.2.2.1.moved hW.alike, h.2.2.2.2.2⟩
theorem xEx.same {G : xG} {xs : Nat → Int32} {L : Nat} {A : Nat → Prop} {u U : State} {H : Heap} (hv : U.vm = u.vm) (h : xEx G xs L A u H) : xEx G xs L A U H := by
  have ha : u.vm.Alike U.vm := by rw [hv]; exact Vm.Alike.refl _
  exact ⟨h.1.moved ha, fun j hj => (h.2.1 j hj).same hv, h.2.2.1.moved ha, h.2.2.2.1.moved ha, h.2.2.2.2.1.moved ha, h.2.2.2.2.2⟩
theorem xEx.kept {G : xG} {xs : Nat → Int32} {L : Nat} {A : Nat → Prop} {U : State} {H H1 : Heap} (h : xEx G xs L A U H) (hz : H.size ≤ H1.size) (hq : ∀ a : Nat, a < H.size → ¬ A a → H1[a]? = H[a]?) : xEx G xs L A U H1 :=
  ⟨h.1.kept hq, h.2.1, h.2.2.1.kept hq, h.2.2.2.1.kept hq, h.2.2.2.2.1.kept (hq _ h.2.2.2.2.2.2.1 h.2.2.2.2.2.1), h.2.2.2.2.2.1, Nat.lt_of_lt_of_le h.2.2.2.2.2.2.1 hz, h.2.2.2.2.2.2.2⟩
theorem xEx.narrow {G : xG} {xs : Nat → Int32} {L : Nat} {A B : Nat → Prop} {U : State} {H : Heap} (h : xEx G xs L A U H) (hAB : ∀ q, B q → A q) : xEx G xs L B U H :=
  ⟨h.1.narrow hAB, h.2.1, h.2.2.1.narrow hAB, h.2.2.2.1.narrow hAB, h.2.2.2.2.1, fun q => h.2.2.2.2.2.1 (hAB _ q), h.2.2.2.2.2.2⟩
def xws (z : Nat) : List Cond := [.code (xm z).1 (xm z).2.1 (xm z).2.2.1 (xm z).2.2.2.1, .arrayClass .int, .arrayClass .byte, .arrayClass .boolean, .arrayClass .char]
def xPre (G : xG) (xs : Nat → Int32) (L : Nat) (D : va_G) (cA : FieldType → ClassId) (ad : Nat → Nat) (nz : Nat) (sh : List xSh) (M : xM) (sz : Nat) (U : State) : Prop := U.heap.size = sz ∧ (nz = sh.length ∧ nz ≤ 900) ∧ va_P D vwCl (xw ad cA sh M) U.heap ∧ va_D (fun _ => True) (xw ad cA sh M) ∧ va_K D vwCl (xty cA) U ∧ xT U ∧ xEx G xs L (va_A (xw ad cA sh M) sz) U U.heap
def xPost (G : xG) (D : va_G) (cA : FieldType → ClassId) (ad : Nat → Nat) (nz : Nat) (A : Nat → Prop) (r : xZ) : Array Value → State → Outcome → State → Prop := fun _ st oc t => (∃ ad' : Nat → Nat, (∀ k, k < nz ∨ r.2.1 ≤ k → ad' k = ad k) ∧ oc = .returned (r.1.map (xcv G ad')) ∧ r.2.1 = r.2.2.1.length ∧ r.2.1 ≤ 900 ∧ va_P D vwCl (xw ad' cA r.2.2.1 r.2.2.2) t.heap ∧ va_D A (xw ad' cA r.2.2.1 r.2.2.2)) ∧ va_F A st t
theorem xPre_blind {G : xG} {xs : Nat → Int32} {L : Nat} {D : va_G} {cA : FieldType → ClassId} {ad : Nat → Nat} {nz : Nat} {sh : List xSh} {M : xM} {sz : Nat} {av : List Value} : FrameBlind (va_Pc av (xPre G xs L D cA ad nz sh M sz)) := by
  intro a U g mk q
  obtain ⟨q0, q1, q2, qP, qD, qK, qT, qE⟩ := q
  exact ⟨q0, q1, q2, qP, qD, va_K.moved (u := U) (U := U.calling g mk a) (Vm.Alike.refl U.vm) qK, xT.same (u := U) (U := U.calling g mk a) rfl qT, xEx.same (u := U) (U := U.calling g mk a) rfl qE⟩
/-- what stands at a return -/
def xRet (p : Program) (l : Launch) (e : Env) (R : Room) (s : State) (m : MethodId) (args : Array Value) (below : List Frame) (meth : Method) (c : Code) (Q : State → Prop) (D : va_G) (cA : FieldType → ClassId) (A : Nat → Prop) (l0 z0 : Nat) (ad0 : Nat → Nat) (y : Nat) (r : xZ) : Prop :=
  ∀ (ad : Nat → Nat) (H : Heap) (locs : List Loc) (cells slots : Nat) (ls : Array Slot) (pc : Nat), (∀ k, k < l0 ∨ r.2.1 ≤ k → ad k = ad0 k) → xWo D cA A s.heap ad r.2.1 r.2.2.1 r.2.2.2 H locs → l0 + cells = r.2.1 → z0 + slots = xsl r.2.2.1 →
    (∀ v, r.1 = some (.int v) → decode (xm y).2.1 pc = .ok (.ireturn, 1) → (∃ ty, (xm y).2.2.2.1 = some ty ∧ narrow ty (.int v) = .int v) → W p l e R s m args below meth c H locs cells slots Q (F0 m pc ls [.int v])) ∧ (r.1 = none → decode (xm y).2.1 pc = .ok (.return_, 1) → (xm y).2.2.2.1 = none → W p l e R s m args below meth c H locs cells slots Q (F0 m pc ls []))
theorem xcall_inv {inst : Bool} {ci z n : Nat} {st : xS} {q : (Nat × List Value × xS) ⊕ Option Value} (h : xo_call inst ci z n st = some (.inr q)) : ∃ (As rest : List Value), As.length = n ∧ xcat rest = true ∧ ((inst = true ∧ ∃ p, q = .inl (z, .ref p :: As, (st.1 + 3, st.2.1, rest, st.2.2.2)) ∧ st.2.2.1 = As.reverse ++ .ref p :: rest ∧ ((ci = 100 ∧ 1000 ≤ p ∧ p < 1008) ∨ (ci ≠ 100 ∧ ∃ fs, st.2.2.2.2.1[p]? = some (.inr (ci, fs))))) ∨ (inst = false ∧ q = .inl (z, As, (st.1 + 3, st.2.1, rest, st.2.2.2)) ∧ st.2.2.1 = As.reverse ++ rest)) := by
  obtain ⟨pc, pl, sk, nz, sh, M⟩ := st
  simp only [xo_call] at h
  cases hn : Nat.ble n sk.length with
  | false => rw [hn] at h; cases h
  | true =>
    rw [hn] at h
    simp only [cond_true] at h
    have hn := Nat.le_of_ble_eq_true hn
    have htk : (sk.take n).reverse.length = n := by simp; omega
    cases inst with
    | true =>
      simp only [cond_true] at h
      split at h
      · rename_i p rest hdr
        cases hq : xcat rest && xrcv ci p sh with
        | false => rw [hq] at h; cases h
        | true =>
          rw [hq] at h
          have h := Sum.inr.inj (Option.some.inj h)
          rw [Bool.and_eq_true] at hq
          refine ⟨(sk.take n).reverse, rest, htk, hq.1, Or.inl ⟨rfl, p, h.symm, ?_, ?_⟩⟩
          · dsimp only
            rw [List.reverse_reverse, ← hdr, List.take_append_drop]
          · have hq2 := hq.2
            unfold xrcv at hq2
            cases hci : Nat.beq ci 100 with
            | true =>
              rw [hci] at hq2
              simp only [cond_true, Bool.and_eq_true] at hq2
              exact Or.inl ⟨Nat.eq_of_beq_eq_true hci, Nat.le_of_ble_eq_true hq2.1, Nat.le_of_ble_eq_true hq2.2⟩
            | false =>
              rw [hci] at hq2
              simp only [cond_false] at hq2
              refine Or.inr ⟨Nat.ne_of_beq_eq_false hci, ?_⟩
              split at hq2
              · rename_i c fs hp
                have ec := Nat.eq_of_beq_eq_true hq2
                subst ec
                exact ⟨fs, hp⟩
              · cases hq2
      · cases h
    | false =>
      simp only [cond_false] at h
      cases hq : xcat (sk.drop n) with
      | false => rw [hq] at h; cases h
      | true =>
        rw [hq] at h
        have h := Sum.inr.inj (Option.some.inj h)
        refine ⟨(sk.take n).reverse, sk.drop n, htk, hq, Or.inr ⟨rfl, h.symm, ?_⟩⟩
        dsimp only
        rw [List.reverse_reverse, List.take_append_drop]
theorem xinit_inv {z n : Nat} {st : xS} {q : (Nat × List Value × xS) ⊕ Option Value} (h : xo_init z n st = some (.inr q)) : ∃ (As rest : List Value) (p : Nat), As.length = n ∧ xcat rest = true ∧ p < 999 ∧ q = .inl (z, .ref p :: As, (st.1 + 3, st.2.1, rest, st.2.2.2)) ∧ st.2.2.1 = As.reverse ++ .ref p :: rest := by
  obtain ⟨pc, pl, sk, nz, sh, M⟩ := st
  simp only [xo_init] at h
  cases hn : Nat.ble n sk.length with
  | false => rw [hn] at h; cases h
  | true =>
    rw [hn] at h
    simp only [cond_true] at h
    have hn := Nat.le_of_ble_eq_true hn
    have htk : (sk.take n).reverse.length = n := by simp; omega
    split at h
    · rename_i p rest hdr
      cases hq : xcat rest && Nat.ble (p + 1) 999 with
      | false => rw [hq] at h; cases h
      | true =>
        rw [hq] at h
        have h := Sum.inr.inj (Option.some.inj h)
        rw [Bool.and_eq_true] at hq
        refine ⟨(sk.take n).reverse, rest, p, htk, hq.1, Nat.le_of_ble_eq_true hq.2, h.symm, ?_⟩
        dsimp only
        rw [List.reverse_reverse, ← hdr, List.take_append_drop]
    · cases h
theorem xlink_of {y idx z w : Nat} (h : xlink y idx z w = true) : lw_tbl[w]? = some (.methodLink (xow y) idx (xm z).1) ∨ lw_tbl[w]? = some (.methodLinkNest (xow y) idx (xm z).1 "RollHall") := by
  unfold xlink at h
  rw [Bool.or_eq_true] at h
  rcases h with h | h
  · exact Or.inl (of_decide_eq_true h)
  · exact Or.inr (of_decide_eq_true h)
/-- what a called method's words say -/
def xCal (z : Nat) : Prop := (∃ i : Nat, lw_tbl[i]? = some (.code (xm z).1 (xm z).2.1 (xm z).2.2.1 (xm z).2.2.2.1)) ∧ (∃ i : Nat, lw_tbl[i]? = some (.initialized (xow z))) ∧ (plainName (xow z) = true ∨ plainFor (xm z).1 = true) ∧ (xow z ≠ "java/lang/invoke/MethodHandle" ∧ xow z ≠ "java/lang/invoke/VarHandle") ∧ (parseMethodDescriptor (xm z).1.desc).map (fun d => d.parameters.length) = some (xna z) ∧
  (xkd z = 0 → ∃ i : Nat, lw_tbl[i]? = some (.static (xm z).1)) ∧ (xkd z = 1 → (∃ i : Nat, lw_tbl[i]? = some (.instanceMethod (xm z).1)) ∧ (∃ i : Nat, lw_tbl[i]? = some (.selects (xow z) (xm z).1 (xm z).1)) ∧ ((xci z = 100 ∧ xow z = "java/lang/String") ∨ (xci z ≠ 100 ∧ vwCl[xci z]?.map (fun q => q.1) = some (xow z)))) ∧ (xkd z = 2 → (∃ i : Nat, lw_tbl[i]? = some (.instanceMethod (xm z).1)) ∧ (xm z).1.name = "<init>" ∧ (xm z).2.2.2.1 = none)
theorem xCal_of {z : Nat} (hcode : ∃ i : Nat, lw_tbl[i]? = some (.code (xm z).1 (xm z).2.1 (xm z).2.2.1 (xm z).2.2.2.1)) (h : xmck z = true) : xCal z := by
  unfold xmck at h
  revert hcode
  unfold xCal xow xkd xna
  generalize xm z = mz at h ⊢
  obtain ⟨y, cc, ml, ret, fr, lo, w1, w2, w3, w4, kd, na⟩ := mz
  intro hcode
  simp only [Bool.and_eq_true, Bool.or_eq_true, decide_eq_true_eq] at h
  obtain ⟨⟨⟨⟨⟨h2, h3⟩, h4⟩, h5⟩, h6⟩, h7⟩ := h
  refine ⟨hcode, ⟨w2, h2⟩, h3, ⟨h4, h5⟩, h6, fun k => ?_, fun k => ?_, fun k => ?_⟩
  · dsimp only at k
    subst k
    exact ⟨w3, of_decide_eq_true h7⟩
  · dsimp only at k
    subst k
    have h7 : (decide (lw_tbl[w3]? = some (.instanceMethod y)) && decide (lw_tbl[w4]? = some (.selects y.cls y y)) && (bif Nat.beq (xci z) 100 then decide (y.cls = "java/lang/String") else decide (vwCl[xci z]?.map (fun q => q.1) = some y.cls))) = true := h7
    rw [Bool.and_eq_true, Bool.and_eq_true] at h7
    refine ⟨⟨w3, of_decide_eq_true h7.1.1⟩, ⟨w4, of_decide_eq_true h7.1.2⟩, ?_⟩
    have h8 := h7.2
    cases hq : Nat.beq (xci z) 100 with
    | true =>
      rw [hq] at h8
      exact Or.inl ⟨Nat.eq_of_beq_eq_true hq, of_decide_eq_true h8⟩
    | false =>
      rw [hq] at h8
      exact Or.inr ⟨Nat.ne_of_beq_eq_false hq, of_decide_eq_true h8⟩
  · dsimp only at k
    subst k
    have h7 : (decide (lw_tbl[w3]? = some (.instanceMethod y)) && decide (y.name = "<init>") && decide (ret = none)) = true := h7
    rw [Bool.and_eq_true, Bool.and_eq_true] at h7
    exact ⟨⟨w3, of_decide_eq_true h7.1.1⟩, of_decide_eq_true h7.1.2, of_decide_eq_true h7.2⟩
theorem xroom_of {y z : Nat} (h : xroom y z = true) : xfr z + 1 ≤ xfr y ∧ 8 + ((xm z).2.2.1 + 11) + xlo z ≤ xlo y := by
  unfold xroom at h
  rw [Bool.and_eq_true] at h
  exact ⟨Nat.le_of_ble_eq_true h.1, Nat.le_of_ble_eq_true h.2⟩
section XCL
variable {p : Program} {l : Launch} {e : Env} {R : Room} {s : State} {m : MethodId} {args : Array Value} {below : List Frame} {meth : Method} {c : Code} {Q : State → Prop} {G : xG} {D : va_G} {cA : FieldType → ClassId} {A : Nat → Prop} {l0 z0 : Nat} {ad0 : Nat → Nat} {xs : Nat → Int32} {L y : Nat}
theorem x_goes {H : Heap} {locs : List Loc} {cells slots mc ms pc : Nat} {ls : Array Slot} {st0 rest : List Value} {Qa : State → Outcome → State → Prop} {free : Addr → Prop} (hr : va_Run p l e R s m args below meth c H locs cells slots mc ms (F0 m pc ls st0) rest Qa free)
    (kk : ∀ (v : Option Value) (st₀ t : State) (H1 : Heap) (K : List Loc), st₀.heap = H → t.heap = H1 → (∀ q ∈ K, free q.base) → Qa st₀ (.returned v) t → W p l e R s m args below meth c H1 (locs ++ K) (cells + mc) (slots + ms) Q (F0 m (pc + 3) ls (v.toList ++ rest))) : W p l e R s m args below meth c H locs cells slots Q (F0 m pc ls st0) := by
  intro T hT X
  obtain ⟨v, st₀, t, T', K, h0, X', hL, e1, e2, hq, st⟩ := hr T hT X
  obtain ⟨t2, a1, b1⟩ := kk v st₀ t T'.heap K h0 e1.symm hL hq T' rfl X'
  exact ⟨t2, st t2 a1, b1⟩
/-- behind a call -/
theorem x_after {pc nz nz' : Nat} {pl : List (Option Value)} {sk st0 : List Value} {sh sh' : List xSh} {M M' : xM} {v : Option Value} {av : Array Value} {ad : Nat → Nat} {H : Heap} {locs : List Loc} {cells slots : Nat} {ls : Array Slot} (hA : ∀ q, s.heap.size ≤ q → A q)
    (had : ∀ k, k < l0 ∨ nz ≤ k → ad k = ad0 k) (hW : xWo D cA A s.heap ad nz sh M H locs) (hL : xLs G ad ls c.maxLocals pl) (hc : l0 + cells = nz) (hz : z0 + slots = xsl sh) (hm1 : nz ≤ nz') (hm2 : xsl sh ≤ xsl sh') (hb : (Nat.beq nz' nz || xbelow nz pl sk) = true)
    (hr : va_Run p l e R s m args below meth c H locs cells slots (nz' - nz) (xsl sh' - xsl sh) (F0 m pc ls st0) (sk.map (xcv G ad)) (xPost G D cA ad nz (va_A (xw ad cA sh M) H.size) (v, nz', sh', M') av) (va_A (xw ad cA sh M) H.size))
    (kk : xWW p l e R s m args below meth c Q G D cA A l0 z0 ad0 (pc + 3, pl, v.toList ++ sk, nz', sh', M')) : W p l e R s m args below meth c H locs cells slots Q (F0 m pc ls st0) := by
  have hFc : ∀ q, va_A (xw ad cA sh M) H.size q → A q := by
    intro q hq
    rcases hq with ⟨k, en, hk⟩ | hq
    · exact hW.2.2.2.1.2 k (q, en) hk
    · exact hA q (Nat.le_trans hW.2.2.2.2.1 hq)
  refine x_goes hr (fun w st₀ t H1 K h0 ht hK hq => ?_)
  obtain ⟨⟨ad', had', hv, hlen, h900, hP', hD'⟩, hsz, hkept⟩ := hq
  dsimp only at had' hv hlen h900 hP' hD'
  have hvw : w = v.map (xcv G ad') := by cases hv; rfl
  subst hvw
  rw [h0] at hsz hkept
  rw [ht] at hsz hkept hP'
  have hcv : (∀ x ∈ sk, xcv G ad' x = xcv G ad x) ∧ ∀ (i : Nat) (x : Value), pl[i]? = some (some x) → xcv G ad' x = xcv G ad x := by
    rw [Bool.or_eq_true] at hb
    rcases hb with hb | hb
    · have en : nz' = nz := Nat.eq_of_beq_eq_true hb
      subst en
      have ea : ad' = ad := funext (fun k => had' k (by omega))
      subst ea
      exact ⟨fun _ _ => rfl, fun _ _ _ => rfl⟩
    · unfold xbelow at hb
      rw [Bool.and_eq_true] at hb
      exact ⟨fun x hx => xcv_below had' (List.all_eq_true.mp hb.2 x hx), fun i x hi => xcv_below had' (by
        have := List.all_eq_true.mp hb.1 (some x) (List.mem_of_getElem? hi)
        exact this)⟩
  have k := kk ad' H1 (locs ++ K) (cells + (nz' - nz)) (slots + (xsl sh' - xsl sh)) ls (fun k hk => by
      dsimp only at hk
      rw [had' k (by omega)]
      exact had k (by omega)) ⟨hlen, h900, hP', hD'.weaken (fun _ q _ h => hFc q.1 h), Nat.le_trans hW.2.2.2.2.1 hsz, fun q h1 h2 => by
        rw [hkept q (Nat.lt_of_lt_of_le h1 hW.2.2.2.2.1) (fun z => h2 (hFc q z))]
        exact hW.2.2.2.2.2.1 q h1 h2, fun q hq => by
        rcases List.mem_append.mp hq with h | h
        · exact hW.2.2.2.2.2.2 q h
        · exact hFc _ (hK q h)⟩ (hL.up (fun i x hi => hcv.2 i x hi)) (by dsimp only; omega) (by dsimp only; omega)
  have est : (v.toList ++ sk).map (xcv G ad') = (v.map (xcv G ad')).toList ++ sk.map (xcv G ad) := by
    rw [List.map_append, List.map_congr_left hcv.1]
    cases v <;> rfl
  dsimp only at k
  rw [est] at k
  exact k
end XCL
