/-! SOUNDNESS, 9: a run of the abstract machine is a run of the machine -/
theorem xargs_mem {G : xG} (hG : G.2.2.2.category = 1) {ad : Nat → Nat} : ∀ (as : List Value) (j i : Nat) (v : Value), (xargs as)[i]? = some (some v) → (j + i, xcv G ad v) ∈ lv_args j (as.map (xcv G ad))
  | [], _, _, _, h => by simp [xargs] at h
  | a :: as, j, i, v, h => by
    by_cases hc : a.category = 2
    · have e1 : xargs (a :: as) = some a :: none :: xargs as := by
        cases a <;> first | rfl | cases hc
      rw [e1] at h
      have e2 : lv_args j ((a :: as).map (xcv G ad)) = (j, xcv G ad a) :: lv_args (j + 2) (as.map (xcv G ad)) := by
        rw [List.map_cons, lv_args, if_pos (by rw [xcv_cat hG]; exact hc)]
      rw [e2]
      match i, h with
      | 0, h =>
        cases h
        exact List.mem_cons_self
      | 1, h => cases h
      | i + 2, h =>
        have := xargs_mem hG (ad := ad) as (j + 2) i v h
        rw [show j + (i + 2) = j + 2 + i by omega]
        exact List.mem_cons_of_mem _ this
    · have e1 : xargs (a :: as) = some a :: xargs as := by
        cases a <;> first | rfl | exact absurd rfl hc
      rw [e1] at h
      have e2 : lv_args j ((a :: as).map (xcv G ad)) = (j, xcv G ad a) :: lv_args (j + 1) (as.map (xcv G ad)) := by
        rw [List.map_cons, lv_args, if_neg (by rw [xcv_cat hG]; exact hc)]
      rw [e2]
      match i, h with
      | 0, h =>
        cases h
        exact List.mem_cons_self
      | i + 1, h =>
        have := xargs_mem hG (ad := ad) as (j + 1) i v h
        rw [show j + (i + 1) = j + 1 + i by omega]
        exact List.mem_cons_of_mem _ this
theorem xargs_len {G : xG} (hG : G.2.2.2.category = 1) {ad : Nat → Nat} : ∀ (as : List Value), (lg_sl (as.map (xcv G ad))).length = (xargs as).length
  | [] => rfl
  | a :: as => by
    have ih := xargs_len hG (ad := ad) as
    have e : lg_sl ((a :: as).map (xcv G ad)) = (if (xcv G ad a).category = 2 then [.val (xcv G ad a), .second] else [.val (xcv G ad a)]) ++ lg_sl (as.map (xcv G ad)) := by
      simp [lg_sl]
    rw [e, List.length_append, ih, xcv_cat hG]
    cases a <;> simp [xargs, Value.category] <;> omega
theorem xent_ls {G : xG} (hG : G.2.2.2.category = 1) {ad : Nat → Nat} {ls : Array Slot} {z : Nat} {as : List Value} (hn : (xargs as).length ≤ (xm z).2.2.1) (h : lv_has ls (xm z).2.2.1 (lv_args 0 (as.map (xcv G ad)))) : xLs G ad ls (xm z).2.2.1 (xent z as) := by
  refine ⟨by unfold xent; rw [List.length_append, List.length_replicate]; omega, h.1, h.2.1, fun i v hi => ?_⟩
  unfold xent at hi
  rcases Nat.lt_or_ge i (xargs as).length with q | q
  · rw [List.getElem?_append_left q] at hi
    have := h.2.2 _ (xargs_mem hG (ad := ad) as 0 i v hi)
    rw [Nat.zero_add] at this
    exact this
  · rw [List.getElem?_append_right q, List.getElem?_replicate] at hi
    split at hi <;> cases hi
/-- every abstract run of n steps from a method's state is a run of the machine -/
def xBody (xs : Nat → Int32) (L n : Nat) : Prop := ∀ (y : Nat) (st : xS) (r : xZ), xrun xs L n y st = some r → ∀ (p : Program) (l : Launch) (e : Env) (R : Room) (s : State) (m : MethodId) (args : Array Value) (below : List Frame) (meth : Method) (c : Code) (Q : State → Prop) (G : xG) (D : va_G) (cA : FieldType → ClassId) (A : Nat → Prop) (l0 z0 : Nat) (ad0 : Nat → Nat),
  xCx p R s m args meth c G xs L D cA A y → r.2.1 ≤ l0 + R.cells → xsl r.2.2.1 ≤ z0 + R.slots → xRet p l e R s m args below meth c Q D cA A l0 z0 ad0 y r → xWW p l e R s m args below meth c Q G D cA A l0 z0 ad0 st
def xRm (z : Nat) (nz : Nat) (sh : List xSh) (r : xZ) : Room := { frames := xfr z, cells := r.2.1 - nz, slots := xsl r.2.2.1 - xsl sh, locals := xlo z }
set_option maxHeartbeats 4000000 in
theorem x_metb {xs : Nat → Int32} {L n : Nat} (hB : xBody xs L n) {l : Launch} {G : xG} {D : va_G} {cA : FieldType → ClassId} {z : Nat} {as : List Value} {nz : Nat} {sh : List xSh} {M : xM} {r : xZ} (hz : z < xN) (hn : (xargs as).length ≤ (xm z).2.2.1) (hrun : xrun xs L n z (0, xent z as, [], nz, sh, M) = some r) (hG : G.2.2.2.category = 1) (ad : Nat → Nat) (sz : Nat)
    {p : Program} {e : Env} {s : State} {m : MethodId} {args : Array Value} {below : List Frame} {meth : Method} {c : Code} {s₁ : State} (B : BodyLoose p l (xm z).1 (headSpec (xws z) (xRm z nz sh r)) (xm z).2.1 (xm z).2.2.1 (xm z).2.2.2.1 e s m args below meth c s₁) (hml : c.maxLocals = (xm z).2.2.1) (hv : va_Pc (as.map (xcv G ad)) (xPre G xs L D cA ad nz sh M sz) args s) :
    W p l e (headSpec (xws z) (xRm z nz sh r)).room s m args below meth c s.heap [] 0 0 (MQ below (xPost G D cA ad nz (va_A (xw ad cA sh M) sz) r) args s (r.2.1 - nz) (xsl r.2.2.1 - xsl sh) (va_A (xw ad cA sh M) sz)) (entryFrame m args (xm z).2.2.1) := by
  obtain ⟨rfl, hsz, hlen, hP, hD0, hK, hT, hE⟩ := hv
  have hx := B.exec
  have hb := B.bytes
  have hr := B.returns
  have hts := atoms_spec (ws := xws z) B.pre
  have hown : s.vm.findClass (xow z) = some m.cls := findClass_of_methodNamed B.named
  have hlocks := B.notSynchronized
  have hin : meth.name = (xm z).1.name := (name_of_methodNamed B.named B.method).1
  subst hsz
  have hD := hD0.self (sz := s.heap.size)
  generalize hAe : va_A (xw ad cA sh M) s.heap.size = A at hD hE ⊢
  have hA : ∀ q : Nat, s.heap.size ≤ q → A q := fun q h => by rw [← hAe]; exact Or.inr h
  have hl := lv_entry (as.map (xcv G ad)) (n := (xm z).2.2.1) (by rw [xargs_len hG]; exact hn)
  rw [lg_entry_eq]
  generalize (lg_sl (as.map (xcv G ad)) ++ List.replicate ((xm z).2.2.1 - (lg_sl (as.map (xcv G ad))).length) Slot.unset).toArray = ls at hl ⊢
  have C : xCx p (headSpec (xws z) (xRm z nz sh r)).room s m (as.map (xcv G ad)).toArray meth c G xs L D cA A z := by
    refine ⟨hz, hx, hb, hml, hown, hT, fun ty hty => ?_, hK, hE, hA, Nat.le_refl _, Nat.le_refl _, fun h => hin.trans h⟩
    refine hts _ ?_
    have : ty = .int ∨ ty = .byte ∨ ty = .boolean ∨ ty = .char := by simpa [xtl] using hty
    rcases this with rfl | rfl | rfl | rfl <;> simp [xws]
  refine hB z _ r hrun p l e (headSpec (xws z) (xRm z nz sh r)).room s m _ below meth c _ G D cA A nz (xsl sh) ad C (by show r.2.1 ≤ nz + (r.2.1 - nz); omega) (by show xsl r.2.2.1 ≤ xsl sh + (xsl r.2.2.1 - xsl sh); omega) ?_ ad s.heap [] 0 0 ls (fun _ _ => rfl) ⟨hlen.1, hlen.2, hP, hD, va_S.rf⟩ (by rw [hml]; exact xent_ls hG hn hl) rfl rfl
  intro ad' H locs cells slots ls' pc had hW hc hs
  obtain rfl : cells = r.2.1 - nz := by omega
  obtain rfl : slots = xsl r.2.2.1 - xsl sh := by omega
  refine ⟨fun v hv hd hty => ?_, fun hv hd hty => ?_⟩
  · obtain ⟨ty, hty, hnr⟩ := hty
    exact W.zret hx hb (hr.trans hty) hnr (fun t ht hWm => ⟨⟨ad', had, by rw [hv]; rfl, hW.1, hW.2.1, by rw [ht]; exact hW.2.2.1, hW.2.2.2.1⟩, hW.2.2.2.2.F ht⟩) hW.2.2.2.2.2.2 hd hlocks
  · exact W.vret hx hb (hr.trans hty) (fun t ht hWm => ⟨⟨ad', had, by rw [hv]; rfl, hW.1, hW.2.1, by rw [ht]; exact hW.2.2.1, hW.2.2.2.1⟩, hW.2.2.2.2.F ht⟩) hW.2.2.2.2.2.2 hd hlocks
set_option maxHeartbeats 4000000 in
theorem x_met {xs : Nat → Int32} {L n : Nat} (hB : xBody xs L n) (l : Launch) {G : xG} {D : va_G} {cA : FieldType → ClassId} {z : Nat} {as : List Value} {nz : Nat} {sh : List xSh} {M : xM} {r : xZ} (hz : z < xN) (hp : plainName (xow z) = true ∨ plainFor (xm z).1 = true) (hn : (xargs as).length ≤ (xm z).2.2.1) (hrun : xrun xs L n z (0, xent z as, [], nz, sh, M) = some r) (hG : G.2.2.2.category = 1) (ad : Nat → Nat) (sz : Nat) :
    Met l (xm z).1 (xws z) (xRm z nz sh r) (va_Pc (as.map (xcv G ad)) (xPre G xs L D cA ad nz sh M sz)) (xPost G D cA ad nz (va_A (xw ad cA sh M) sz) r) (r.2.1 - nz) (xsl r.2.2.1 - xsl sh) (va_A (xw ad cA sh M) sz) := by
  refine hp.elim (fun hp => Met.ofW (cc := (xm z).2.1) (maxL := (xm z).2.2.1) (ret := (xm z).2.2.2.1) hp rfl ?_) (fun hp => va_MetF (cc := (xm z).2.1) (maxL := (xm z).2.2.1) (ret := (xm z).2.2.2.1) hp rfl ?_)
  all_goals intro p e s m args below meth c s₁ B hml hv
  all_goals exact x_metb hB hz hn hrun hG ad sz B hml hv

theorem xrun_grow {xs : Nat → Int32} {L : Nat} (hOK : ∀ y pc e, xI y pc = some e → xgood y pc e = true) : ∀ (n y : Nat) (st : xS) (r : xZ), xrun xs L n y st = some r → st.2.2.2.1 ≤ r.2.1 ∧ xsl st.2.2.2.2.1 ≤ xsl r.2.2.1
  | 0, _, _, _, h => by cases h
  | n + 1, y, st, r, h => by
    unfold xrun at h
    split at h
    · cases h
    · rename_i st' hs
      have g1 := x_grow hs
      have g2 := xrun_grow hOK n y st' r h
      exact ⟨Nat.le_trans g1.1 g2.1, Nat.le_trans g1.2 g2.2⟩
    · rename_i z as pc pl sk nz sh M hs
      have hin := x_inr (hOK y) hs
      have e3 : (nz, sh, M) = st.2.2.2 := by
        rcases hin with ⟨idx, z', w, As, rest, p, -, -, -, e, -⟩ | ⟨idx, z', w, As, rest, -, -, -, e, -⟩ | ⟨idx, z', w, As, rest, p, -, -, -, -, e, -⟩ | ⟨v, e, -⟩ | ⟨e, -⟩
        · have e := Sum.inl.inj e
          exact congrArg (fun q : Nat × List Value × xS => q.2.2.2.2.2) e
        · have e := Sum.inl.inj e
          exact congrArg (fun q : Nat × List Value × xS => q.2.2.2.2.2) e
        · have e := Sum.inl.inj e
          exact congrArg (fun q : Nat × List Value × xS => q.2.2.2.2.2) e
        · cases e
        · cases e
      simp only [Bool.cond_eq_ite] at h
      split at h
      · split at h
        · cases h
        · rename_i v nz' sh' M' hr
          split at h
          · have g1 := xrun_grow hOK n _ _ _ hr
            have g2 := xrun_grow hOK n _ _ _ h
            rw [← e3]
            exact ⟨Nat.le_trans g1.1 g2.1, Nat.le_trans g1.2 g2.2⟩
          · cases h
      · cases h
    · cases h
      exact ⟨Nat.le_refl _, Nat.le_refl _⟩
section XCC
variable {p : Program} {l : Launch} {e : Env} {R : Room} {s : State} {m : MethodId} {args : Array Value} {below : List Frame} {meth : Method} {c : Code} {Q : State → Prop} {G : xG} {D : va_G} {cA : FieldType → ClassId} {A : Nat → Prop} {l0 z0 : Nat} {ad0 : Nat → Nat} {xs : Nat → Int32} {L y : Nat}
/-- what every call of z needs, but its link -/
theorem x_base {n z nz : Nat} {As : List Value} {sh : List xSh} {M : xM} {r : xZ} {ad : Nat → Nat} {H : Heap} {locs : List Loc} (C : xCx p R s m args meth c G xs L D cA A y) (hc : xCal z) (hrm : xroom y z = true) (hW : xWo D cA A s.heap ad nz sh M H locs) :
    (∀ w ∈ xws z, ∀ (a' : Array Value) (U : State), s.WarmedH U.vm → w.before a' U = true) ∧ (Cond.code (xm z).1 (xm z).2.1 (xm z).2.2.1 (xm z).2.2.2.1).before args s = true ∧ (Cond.initialized (xow z)).before args s = true ∧ (∀ sig, parseMethodDescriptor (xm z).1.desc = some sig → xna z = sig.parameters.length) ∧ (xfr z + 1 ≤ R.frames ∧ 8 + ((xm z).2.2.1 + 11) + xlo z ≤ R.locals) ∧ ∀ U : State, U.heap = H → s.WarmedH U.vm → xPre G xs L D cA ad nz sh M H.size U := by
  obtain ⟨hy, hx, hb, hml, hown, hT, har, hK, hE, hA, hfr, hlo, hin⟩ := C
  obtain ⟨⟨i1, h1⟩, ⟨i2, h2⟩, h3, h4, h5, -⟩ := hc
  have hr := xroom_of hrm
  have hFc : ∀ q, va_A (xw ad cA sh M) H.size q → A q := by
    intro q hq
    rcases hq with ⟨k, en, hk⟩ | hq
    · exact hW.2.2.2.1.2 k (q, en) hk
    · exact hA q (Nat.le_trans hW.2.2.2.2.1 hq)
  refine ⟨fun w hw a' U hWm => ?_, hT.at h1 rfl args, hT.at h2 rfl args, fun sig hs => ?_, ⟨Nat.le_trans hr.1 hfr, Nat.le_trans hr.2 hlo⟩, fun U hU hWm => ?_⟩
  · simp only [xws, List.mem_cons, List.not_mem_nil, or_false] at hw
    rcases hw with rfl | rfl | rfl | rfl | rfl
    · exact (hT.warm hWm).at h1 rfl a'
    · exact word_at hWm (Or.inr ⟨_, rfl⟩) (har _ (by decide))
    · exact word_at hWm (Or.inr ⟨_, rfl⟩) (har _ (by decide))
    · exact word_at hWm (Or.inr ⟨_, rfl⟩) (har _ (by decide))
    · exact word_at hWm (Or.inr ⟨_, rfl⟩) (har _ (by decide))
  · rw [hs] at h5
    exact (Option.some.inj h5).symm
  · refine ⟨by rw [hU], ⟨hW.1, hW.2.1⟩, by rw [hU]; exact hW.2.2.1, hW.2.2.2.1.weaken (fun _ _ _ _ => trivial), hK.moved hWm.alike, hT.warm hWm, ?_⟩
    rw [hU]
    exact ((hE.kept hW.2.2.2.2.1 hW.2.2.2.2.2.1).narrow hFc).warm hWm
set_option maxHeartbeats 4000000 in
theorem x_call {n : Nat} {st : xS} {z : Nat} {as : List Value} {s1 : xS} {v : Option Value} {nz' : Nat} {sh' : List xSh} {M' : xM} (hOK : ∀ y pc e, xI y pc = some e → xgood y pc e = true) (hCal : ∀ z, z + 1 < xN → xCal z) (hB : xBody xs L n) (C : xCx p R s m args meth c G xs L D cA A y) (h : xstep xs L y st = some (.inr (.inl (z, as, s1)))) (hn : (xargs as).length ≤ (xm z).2.2.1) (hrun : xrun xs L n z (0, xent z as, [], s1.2.2.2) = some (v, nz', sh', M')) (hb2 : (Nat.beq nz' s1.2.2.2.1 || xbelow s1.2.2.2.1 s1.2.1 s1.2.2.1) = true)
    (hl : nz' ≤ l0 + R.cells) (hsl : xsl sh' ≤ z0 + R.slots) (kk : xWW p l e R s m args below meth c Q G D cA A l0 z0 ad0 (s1.1, s1.2.1, v.toList ++ s1.2.2.1, nz', sh', M')) : xWW p l e R s m args below meth c Q G D cA A l0 z0 ad0 st := by
  have hgr := xrun_grow hOK n z _ _ hrun
  dsimp only at hgr
  have hG : G.2.2.2.category = 1 := C.2.2.2.2.2.2.2.2.1.2.2.2.2.2.2.2
  obtain ⟨hy, hx, hb, hml, hown, hT, har, hK, hE, hA, hfr, hlo, hin⟩ := id C
  obtain ⟨pc, pl, sk, nz, sh, M⟩ := st
  have hinr := x_inr (hOK y) h
  intro ad H locs cells slots ls had hW hL hc hs
  dsimp only at had hW hL hc hs hinr ⊢
  rcases hinr with ⟨idx, z', w, As, rest, q, hd, hS, hk, e1, e2, e3⟩ | ⟨idx, z', w, As, rest, hd, hS, hk, e1, e2⟩ | ⟨idx, z', w, As, rest, q, hd, hS, hk, hq9, e1, e2⟩ | ⟨v, e1, -⟩ | ⟨e1, -⟩
  · have e1 := Sum.inl.inj e1
    obtain ⟨rfl, rfl, rfl⟩ : z = z' ∧ as = .ref q :: As ∧ s1 = (pc + 3, pl, rest, nz, sh, M) := by
      injection e1 with a1 a2
      injection a2 with a2 a3
      exact ⟨a1, a2, a3⟩
    subst e2
    obtain ⟨hz1, hlk, hrm, hna, hct⟩ := hS
    have hcal := hCal z hz1
    obtain ⟨b1, b2, b3, b4, b5, b6⟩ := x_base (n := n) (As := As) (r := (v, nz', sh', M')) C hcal hrm hW
    obtain ⟨-, -, h3, h4, -, -, h7, -⟩ := hcal
    obtain ⟨⟨i1, w1⟩, ⟨i2, w2⟩, w3⟩ := h7 hk
    obtain ⟨bq, ebq, hrc⟩ : ∃ bq, xcv G ad (.ref q) = .ref bq ∧ ∃ cell : Cell, H[bq]? = some cell ∧ cell.vm.isStatics = false ∧ s.vm.findClass (xow z) = some cell.cls := by
      rcases e3 with ⟨g1, g2, g3⟩ | ⟨g1, fs, g2⟩
      · refine ⟨G.2.1 (q - 1000), by rw [xcv_ref (by omega), xad, if_neg (by omega), if_neg (by omega), if_pos (by omega)], ?_⟩
        rcases w3 with w3 | w3
        · rw [w3.2]
          exact vk_recv hE.1 (by omega) hW.2.2.2.2
        · exact absurd g1 w3.1
      · refine ⟨ad q, xcv_low (xlow hW g2), ?_⟩
        rcases w3 with w3 | w3
        · exact absurd w3.1 g1
        · have hat := hW.2.2.1 q _ (xw_get g2)
          obtain ⟨rr, hrr, -⟩ := hat
          have w4 := w3.2
          rw [show vwCl[xci z]? = some rr from hrr] at w4
          have w4 := Option.some.inj w4
          rw [← w4]
          exact va_recv hK hW.2.2.1 hrr (xw_get g2)
    have hM := x_met hB l (D := D) (cA := cA) (z := z) (as := .ref q :: As) (by omega) h3 hn hrun hG ad H.size
    rw [List.map_cons, ebq] at hM
    have hcat : ((rest.map (xcv G ad)).map fun v => v.category).sum ≤ 8 := by
      rw [xmap_cat hG]
      exact Nat.le_of_ble_eq_true hct
    have hst : (As.reverse ++ Value.ref q :: rest).map (xcv G ad) = (As.map (xcv G ad)).reverse ++ .ref bq :: rest.map (xcv G ad) := by
      rw [List.map_append, List.map_reverse, List.map_cons, ebq]
    rcases xlink_of hlk with hlk | hlk
    · exact x_after hA had hW hL hc hs hgr.1 hgr.2 hb2 (va_runV (As := As.map (xcv G ad)) (rest := rest.map (xcv G ad)) (Ts := []) (C := xow z) (bytes := (xm z).2.1) (maxL := (xm z).2.2.1) (ret := (xm z).2.2.2.1) (n := xna z) ⟨hx, hb, rfl, hown, fun w h => by cases h⟩ hM ⟨⟨rfl, rfl, b5.1, b5.2, b1, List.mem_cons_self, b2, b3, h4, b4, hT.at hlk rfl args⟩, hT.at w1 rfl args, hT.at w2 rfl args⟩ ⟨xPre_blind, hrc, fun U hU hWm => ⟨rfl, b6 U hU hWm⟩⟩ rfl (by rw [List.length_map]; exact hna.symm) hL.2.1 hst (lv_room hcat) hd ⟨by dsimp only at hgr; omega, by dsimp only at hgr; omega⟩) kk
    · exact x_after hA had hW hL hc hs hgr.1 hgr.2 hb2 (va_runVN (As := As.map (xcv G ad)) (rest := rest.map (xcv G ad)) (Ts := []) (C := xow z) (host := "RollHall") (bytes := (xm z).2.1) (maxL := (xm z).2.2.1) (ret := (xm z).2.2.2.1) (n := xna z) ⟨hx, hb, rfl, hown, fun w h => by cases h⟩ hM ⟨⟨⟨rfl, rfl, b5.1, b5.2, b1, List.mem_cons_self⟩, b2, b3, h4, b4, hT.at hlk rfl args⟩, hT.at w1 rfl args, hT.at w2 rfl args⟩ ⟨xPre_blind, hrc, fun U hU hWm => ⟨rfl, b6 U hU hWm⟩⟩ rfl (by rw [List.length_map]; exact hna.symm) hL.2.1 hst (lv_room hcat) hd ⟨by dsimp only at hgr; omega, by dsimp only at hgr; omega⟩) kk
  · have e1 := Sum.inl.inj e1
    obtain ⟨rfl, rfl, rfl⟩ : z = z' ∧ as = As ∧ s1 = (pc + 3, pl, rest, nz, sh, M) := by
      injection e1 with a1 a2
      injection a2 with a2 a3
      exact ⟨a1, a2, a3⟩
    subst e2
    obtain ⟨hz1, hlk, hrm, hna, hct⟩ := hS
    have hcal := hCal z hz1
    obtain ⟨b1, b2, b3, b4, b5, b6⟩ := x_base (n := n) (As := as) (r := (v, nz', sh', M')) C hcal hrm hW
    obtain ⟨-, -, h3, h4, -, h7, -⟩ := hcal
    obtain ⟨i1, w1⟩ := h7 hk
    have hM := x_met hB l (D := D) (cA := cA) (z := z) (as := as) (by omega) h3 hn hrun hG ad H.size
    have hcat : ((rest.map (xcv G ad)).map fun v => v.category).sum ≤ 8 := by
      rw [xmap_cat hG]
      exact Nat.le_of_ble_eq_true hct
    have hst : (as.reverse ++ rest).map (xcv G ad) = (as.map (xcv G ad)).reverse ++ rest.map (xcv G ad) := by
      rw [List.map_append, List.map_reverse]
    rcases xlink_of hlk with hlk | hlk
    · exact x_after hA had hW hL hc hs hgr.1 hgr.2 hb2 (va_runS (As := as.map (xcv G ad)) (rest := rest.map (xcv G ad)) (Ts := []) (bytes := (xm z).2.1) (maxL := (xm z).2.2.1) (ret := (xm z).2.2.2.1) (n := xna z) ⟨hx, hb, rfl, hown, fun w h => by cases h⟩ hM ⟨⟨rfl, rfl, b5.1, b5.2, b1, List.mem_cons_self, b2, b3, h4, b4, hT.at hlk rfl args⟩, hT.at w1 rfl args⟩ ⟨xPre_blind, fun U hU hWm => ⟨rfl, b6 U hU hWm⟩⟩ rfl (by rw [List.length_map]; exact hna.symm) hL.2.1 hst (lv_room hcat) hd ⟨by dsimp only at hgr; omega, by dsimp only at hgr; omega⟩) kk
    · exact x_after hA had hW hL hc hs hgr.1 hgr.2 hb2 (va_runSN (As := as.map (xcv G ad)) (rest := rest.map (xcv G ad)) (Ts := []) (host := "RollHall") (bytes := (xm z).2.1) (maxL := (xm z).2.2.1) (ret := (xm z).2.2.2.1) (n := xna z) ⟨hx, hb, rfl, hown, fun w h => by cases h⟩ hM ⟨⟨⟨rfl, rfl, b5.1, b5.2, b1, List.mem_cons_self⟩, b2, b3, h4, b4, hT.at hlk rfl args⟩, hT.at w1 rfl args, trivial⟩ ⟨xPre_blind, fun U hU hWm => ⟨rfl, b6 U hU hWm⟩⟩ rfl (by rw [List.length_map]; exact hna.symm) hL.2.1 hst (lv_room hcat) hd ⟨by dsimp only at hgr; omega, by dsimp only at hgr; omega⟩) kk
  · have e1 := Sum.inl.inj e1
    obtain ⟨rfl, rfl, rfl⟩ : z = z' ∧ as = .ref q :: As ∧ s1 = (pc + 3, pl, rest, nz, sh, M) := by
      injection e1 with a1 a2
      injection a2 with a2 a3
      exact ⟨a1, a2, a3⟩
    subst e2
    obtain ⟨hz1, hlk, hrm, hna, hct⟩ := hS
    have hcal := hCal z hz1
    obtain ⟨b1, b2, b3, b4, b5, b6⟩ := x_base (n := n) (As := As) (r := (v, nz', sh', M')) C hcal hrm hW
    obtain ⟨-, -, h3, h4, -, -, -, h7⟩ := hcal
    obtain ⟨⟨i1, w1⟩, w2, w3⟩ := h7 hk
    have ebq : xcv G ad (.ref q) = .ref (ad q) := xcv_low hq9
    have hM := x_met hB l (D := D) (cA := cA) (z := z) (as := .ref q :: As) (by omega) h3 hn hrun hG ad H.size
    rw [List.map_cons, ebq] at hM
    have hcat : ((rest.map (xcv G ad)).map fun v => v.category).sum ≤ 8 := by
      rw [xmap_cat hG]
      exact Nat.le_of_ble_eq_true hct
    have hst : (As.reverse ++ Value.ref q :: rest).map (xcv G ad) = (As.map (xcv G ad)).reverse ++ .ref (ad q) :: rest.map (xcv G ad) := by
      rw [List.map_append, List.map_reverse, List.map_cons, ebq]
    rw [w3] at b2
    have hmem : Cond.code (xm z).1 (xm z).2.1 (xm z).2.2.1 none ∈ xws z := by
      unfold xws
      rw [w3]
      exact List.mem_cons_self
    rcases xlink_of hlk with hlk | hlk
    · exact x_after hA had hW hL hc hs hgr.1 hgr.2 hb2 (va_runI (As := As.map (xcv G ad)) (rest := rest.map (xcv G ad)) (Ts := []) (bytes := (xm z).2.1) (maxL := (xm z).2.2.1) (n := xna z) ⟨hx, hb, rfl, hown, fun w h => by cases h⟩ hM ⟨⟨rfl, rfl, b5.1, b5.2, b1, hmem, b2, b3, h4, b4, hT.at hlk rfl args⟩, w2, hT.at w1 rfl args⟩ ⟨xPre_blind, fun U hU hWm => ⟨rfl, b6 U hU hWm⟩⟩ rfl (by rw [List.length_map]; exact hna.symm) hL.2.1 hst (lv_room hcat) hd ⟨by dsimp only at hgr; omega, by dsimp only at hgr; omega⟩) kk
    · exact x_after hA had hW hL hc hs hgr.1 hgr.2 hb2 (va_runIN (As := As.map (xcv G ad)) (rest := rest.map (xcv G ad)) (Ts := []) (host := "RollHall") (bytes := (xm z).2.1) (maxL := (xm z).2.2.1) (n := xna z) ⟨hx, hb, rfl, hown, fun w h => by cases h⟩ hM ⟨⟨⟨rfl, rfl, b5.1, b5.2, b1, hmem⟩, b2, b3, h4, b4, hT.at hlk rfl args⟩, w2, hT.at w1 rfl args⟩ ⟨xPre_blind, fun U hU hWm => ⟨rfl, b6 U hU hWm⟩⟩ rfl (by rw [List.length_map]; exact hna.symm) hL.2.1 hst (lv_room hcat) hd ⟨by dsimp only at hgr; omega, by dsimp only at hgr; omega⟩) kk
  · cases e1
  · cases e1
end XCC
set_option maxHeartbeats 4000000 in
/-- THE MACHINE FOLLOWS -/
theorem x_body {xs : Nat → Int32} {L : Nat} (hOK : ∀ y pc e, xI y pc = some e → xgood y pc e = true) (hCal : ∀ z, z + 1 < xN → xCal z) : ∀ n, xBody xs L n
  | 0 => fun _ _ _ h => by cases h
  | n + 1 => by
    have ih := x_body (xs := xs) (L := L) hOK hCal n
    intro y st r h p l e R s m args below meth c Q G D cA A l0 z0 ad0 C hl hsl hret
    unfold xrun at h
    split at h
    · cases h
    · rename_i st' hs
      have g := xrun_grow hOK n y st' r h
      exact x_next C (hOK y) hs (Nat.le_trans g.1 hl) (Nat.le_trans g.2 hsl) (ih y st' r h p l e R s m args below meth c Q G D cA A l0 z0 ad0 C hl hsl hret)
    · rename_i z as pc pl sk nz sh M hs
      simp only [Bool.cond_eq_ite] at h
      split at h
      · rename_i hn
        have hn := Nat.le_of_ble_eq_true hn
        split at h
        · cases h
        · rename_i v nz' sh' M' hr
          split at h
          · rename_i hb
            have g := xrun_grow hOK n y _ r h
            exact x_call hOK hCal ih C hs hn hr hb (Nat.le_trans g.1 hl) (Nat.le_trans g.2 hsl) (ih y _ r h p l e R s m args below meth c Q G D cA A l0 z0 ad0 C hl hsl hret)
          · cases h
      · cases h
    · rename_i v hs
      have h := Option.some.inj h
      subst h
      obtain ⟨pc, pl, sk, nz, sh, M⟩ := st
      have hinr := x_inr (hOK y) hs
      intro ad H locs cells slots ls had hW hL hc hz
      dsimp only at had hW hL hc hz hinr ⊢
      obtain ⟨k1, k2⟩ := hret ad H locs cells slots ls pc had hW hc hz
      rcases hinr with ⟨idx, z', w, As, rest, q, -, -, -, e1, -⟩ | ⟨idx, z', w, As, rest, -, -, -, e1, -⟩ | ⟨idx, z', w, As, rest, q, -, -, -, -, e1, -⟩ | ⟨v', e1, e2, hd, hty⟩ | ⟨e1, e2, hd, hty⟩
      · cases e1
      · cases e1
      · cases e1
      · cases e1
        have e2 : sk = [.int v'] := e2
        subst e2
        exact k1 v' rfl hd hty
      · cases e1
        have e2 : sk = [] := e2
        subst e2
        exact k2 rfl hd hty
theorem xCalAll : ∀ z, z + 1 < xN → xCal z := fun z hz => xCal_of (xmc z hz) (xmOK z hz)
