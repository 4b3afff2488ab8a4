/-! SOUNDNESS, 3: the instructions that read and write cells -/
theorem xoutB_in {i : Int32} {n : Nat} (h : xoutB i n = false) : vp_in i n := by
  intro q
  simp only [xoutB, Bool.or_eq_false_iff, decide_eq_false_iff_not] at h
  rcases q with q | q
  · exact h.1 q
  · rw [Nat.ble_eq_true_of_le q] at h
    cases h.2
theorem xlow {D : va_G} {cA : FieldType → ClassId} {A : Nat → Prop} {H0 : Heap} {ad : Nat → Nat} {nz : Nat} {sh : List xSh} {M : xM} {H : Heap} {locs : List Loc} (h : xWo D cA A H0 ad nz sh M H locs) {p : Nat} {d : xSh} (hp : sh[p]? = some d) : p < 999 := by
  have := (List.getElem?_eq_some_iff.mp hp).1
  have := h.1
  have := h.2.1
  omega
theorem xty_int (cA : FieldType → ClassId) : (xty cA)[0]? = some (cA .int, .int) := rfl
theorem xty_byte (cA : FieldType → ClassId) : (xty cA)[1]? = some (cA .byte, .byte) := rfl
theorem xty_bool (cA : FieldType → ClassId) : (xty cA)[2]? = some (cA .boolean, .boolean) := rfl
theorem xty_char (cA : FieldType → ClassId) : (xty cA)[3]? = some (cA .char, .char) := rfl
theorem xwo_row {D : va_G} {cA : FieldType → ClassId} {A : Nat → Prop} {H0 : Heap} {ad : Nat → Nat} {nz : Nat} {sh : List xSh} {M : xM} {H : Heap} {locs : List Loc} (h : xWo D cA A H0 ad nz sh M H locs) {p : Nat} {d : xSh} (hp : sh[p]? = some d) (row : Nat → Int32) {H1 : Heap} {locs1 : List Loc}
    (hP : va_P D vwCl ((xw ad cA sh M).set p (ad p, xce ad cA row d)) H1) (hD : va_D A ((xw ad cA sh M).set p (ad p, xce ad cA row d))) (hS : va_S A H0 H1 locs1) : xWo D cA A H0 ad nz sh (va_up M p row) H1 locs1 := by
  rw [xw_setM hp] at hP hD
  exact ⟨h.1, h.2.1, hP, hD, hS⟩

section XSNM
variable {p : Program} {l : Launch} {e : Env} {R : Room} {s : State} {m : MethodId} {args : Array Value} {below : List Frame} {meth : Method} {c : Code} {Q : State → Prop} {G : xG} {D : va_G} {cA : FieldType → ClassId} {A : Nat → Prop} {l0 z0 : Nat} {ad0 : Nat → Nat} {xs : Nat → Int32} {L y : Nat}
theorem xs_iald {st st' : xS} (C : xCx p R s m args meth c G xs L D cA A y)  (hd : decode (xm y).2.1 st.1 = .ok (.iaload, 1)) (h : xo_iald xs L st = some (.inl st')) (kk : xWW p l e R s m args below meth c Q G D cA A l0 z0 ad0 st') : xWW p l e R s m args below meth c Q G D cA A l0 z0 ad0 st := by
  obtain ⟨hy, hx, hb, hml, hown, hT, har, hK, hE, hA, hfr, hlo, hin⟩ := C
  unfold xo_iald at h
  split at h
  · rename_i pc pl i p stk nz sh M
    cases h9 : Nat.beq p 999 with
    | true =>
      rw [h9] at h
      have e9 : p = 999 := Nat.eq_of_beq_eq_true h9
      subst e9
      cases hq : xoutB i L with
      | true => rw [hq] at h; cases h
      | false =>
        rw [hq] at h
        have h := Sum.inl.inj (Option.some.inj h)
        subst h
        intro ad H locs cells slots ls had hW hL hc hz
        have e9 : xcv G ad (.ref 999) = .ref G.1 := by rw [xcv_ref (by omega), xad, if_neg (by omega), if_pos rfl]
        simp only [List.map_cons, e9]
        exact va_sld hx hb hE.2.2.2.2.1 hE.2.2.2.2.2.2.1 hE.2.2.2.2.2.1 hW.2.2.2.2 (xoutB_in hq) hd (kk ad H locs cells slots ls had hW hL hc hz)
    | false =>
      rw [h9] at h
      simp only [cond_false] at h
      split at h
      · rename_i n hp
        cases hq : xoutB i n with
        | true => rw [hq] at h; cases h
        | false =>
          rw [hq] at h
          have h := Sum.inl.inj (Option.some.inj h)
          subst h
          intro ad H locs cells slots ls had hW hL hc hz
          simp only [List.map_cons, xcv_low (xlow hW hp)]
          exact va_iald hx hb hK hW.2.2.1 p 0 (xw_get hp) (xty_int cA) (xoutB_in hq) hd (kk ad H locs cells slots ls had hW hL hc hz)
      · cases h
  · cases h

theorem xs_cald {st st' : xS} (C : xCx p R s m args meth c G xs L D cA A y)  (hd : decode (xm y).2.1 st.1 = .ok (.caload, 1)) (h : xo_cald st = some (.inl st')) (kk : xWW p l e R s m args below meth c Q G D cA A l0 z0 ad0 st') : xWW p l e R s m args below meth c Q G D cA A l0 z0 ad0 st := by
  obtain ⟨hy, hx, hb, hml, hown, hT, har, hK, hE, hA, hfr, hlo, hin⟩ := C
  unfold xo_cald at h
  split at h
  · rename_i pc pl i p stk nz sh M
    split at h
    · rename_i n hp
      cases hq : xoutB i n with
      | true => rw [hq] at h; cases h
      | false =>
        rw [hq] at h
        have h := Sum.inl.inj (Option.some.inj h)
        subst h
        intro ad H locs cells slots ls had hW hL hc hz
        simp only [List.map_cons, xcv_low (xlow hW hp)]
        exact va_cald hx hb hK hW.2.2.1 p 3 (xw_get hp) (xty_char cA) (xoutB_in hq) hd (kk ad H locs cells slots ls had hW hL hc hz)
    · cases h
  · cases h

theorem xs_bald {st st' : xS} (C : xCx p R s m args meth c G xs L D cA A y)  (hd : decode (xm y).2.1 st.1 = .ok (.baload, 1)) (h : xo_bald st = some (.inl st')) (kk : xWW p l e R s m args below meth c Q G D cA A l0 z0 ad0 st') : xWW p l e R s m args below meth c Q G D cA A l0 z0 ad0 st := by
  obtain ⟨hy, hx, hb, hml, hown, hT, har, hK, hE, hA, hfr, hlo, hin⟩ := C
  unfold xo_bald at h
  split at h
  · rename_i pc pl i p stk nz sh M
    cases h9 : Nat.ble 2000 p with
    | true =>
      rw [h9] at h
      simp only [cond_true] at h
      cases h8 : Nat.ble (p + 1) 2008 with
      | false => rw [h8] at h; cases h
      | true =>
        rw [h8] at h
        simp only [cond_true] at h
        cases hq : xoutB i (xSl.getD (p - 2000) 0) with
        | true => rw [hq] at h; cases h
        | false =>
          rw [hq] at h
          have h := Sum.inl.inj (Option.some.inj h)
          subst h
          have g1 := Nat.le_of_ble_eq_true h9
          have g2 := Nat.le_of_ble_eq_true h8
          intro ad H locs cells slots ls had hW hL hc hz
          have e9 : xcv G ad (.ref p) = .ref (G.2.2.1 (p - 2000)) := by rw [xcv_ref (by omega), xad, if_neg (by omega), if_neg (by omega), if_neg (by omega)]
          simp only [List.map_cons, e9]
          exact va_tb hx hb (hE.1.1 (p - 2000) (by omega)).2.2.2 hW.2.2.2.2 (xoutB_in hq) rfl hd (kk ad H locs cells slots ls had hW hL hc hz)
    | false =>
      rw [h9] at h
      simp only [cond_false] at h
      split at h
      · rename_i n hp
        cases hq : xoutB i n with
        | true => rw [hq] at h; cases h
        | false =>
          rw [hq] at h
          have h := Sum.inl.inj (Option.some.inj h)
          subst h
          intro ad H locs cells slots ls had hW hL hc hz
          simp only [List.map_cons, xcv_low (xlow hW hp)]
          exact va_bald hx hb hK hW.2.2.1 p 1 (xw_get hp) (xty_byte cA) (xoutB_in hq) hd (kk ad H locs cells slots ls had hW hL hc hz)
      · rename_i n hp
        cases hq : xoutB i n with
        | true => rw [hq] at h; cases h
        | false =>
          rw [hq] at h
          have h := Sum.inl.inj (Option.some.inj h)
          subst h
          intro ad H locs cells slots ls had hW hL hc hz
          simp only [List.map_cons, xcv_low (xlow hW hp)]
          exact va_zald hx hb hK hW.2.2.1 p 2 (xw_get hp) (xty_bool cA) (xoutB_in hq) hd (kk ad H locs cells slots ls had hW hL hc hz)
      · cases h
  · cases h

theorem xs_iast {st st' : xS} (C : xCx p R s m args meth c G xs L D cA A y)  (hd : decode (xm y).2.1 st.1 = .ok (.iastore, 1)) (h : xo_iast st = some (.inl st')) (kk : xWW p l e R s m args below meth c Q G D cA A l0 z0 ad0 st') : xWW p l e R s m args below meth c Q G D cA A l0 z0 ad0 st := by
  obtain ⟨hy, hx, hb, hml, hown, hT, har, hK, hE, hA, hfr, hlo, hin⟩ := C
  unfold xo_iast at h
  split at h
  · rename_i pc pl x i p stk nz sh M
    split at h
    · rename_i n hp
      cases hq : xoutB i n with
      | true => rw [hq] at h; cases h
      | false =>
        rw [hq] at h
        have h := Sum.inl.inj (Option.some.inj h)
        subst h
        intro ad H locs cells slots ls had hW hL hc hz
        simp only [List.map_cons, xcv_low (xlow hW hp)]
        exact va_iast hx hb hK hW.2.2.1 hW.2.2.2.1 hW.2.2.2.2 p 0 (xw_get hp) (xty_int cA) (xoutB_in hq) hd (fun H1 locs1 hP hD hS => kk ad H1 locs1 cells slots ls had (xwo_row hW hp (upd (M p) i.toNatClampNeg x) hP hD hS) hL hc hz)
    · cases h
  · cases h

theorem xs_cast {st st' : xS} (C : xCx p R s m args meth c G xs L D cA A y)  (hd : decode (xm y).2.1 st.1 = .ok (.castore, 1)) (h : xo_cast st = some (.inl st')) (kk : xWW p l e R s m args below meth c Q G D cA A l0 z0 ad0 st') : xWW p l e R s m args below meth c Q G D cA A l0 z0 ad0 st := by
  obtain ⟨hy, hx, hb, hml, hown, hT, har, hK, hE, hA, hfr, hlo, hin⟩ := C
  unfold xo_cast at h
  split at h
  · rename_i pc pl x i p stk nz sh M
    split at h
    · rename_i n hp
      cases hq : xoutB i n with
      | true => rw [hq] at h; cases h
      | false =>
        rw [hq] at h
        have h := Sum.inl.inj (Option.some.inj h)
        subst h
        intro ad H locs cells slots ls had hW hL hc hz
        simp only [List.map_cons, xcv_low (xlow hW hp)]
        exact va_cast hx hb hK hW.2.2.1 hW.2.2.2.1 hW.2.2.2.2 p 3 (xw_get hp) (xty_char cA) (xoutB_in hq) hd (fun H1 locs1 hP hD hS => kk ad H1 locs1 cells slots ls had (xwo_row hW hp (upd (M p) i.toNatClampNeg (vp_nar .char x)) hP hD hS) hL hc hz)
    · cases h
  · cases h

theorem xs_bast {st st' : xS} (C : xCx p R s m args meth c G xs L D cA A y)  (hd : decode (xm y).2.1 st.1 = .ok (.bastore, 1)) (h : xo_bast st = some (.inl st')) (kk : xWW p l e R s m args below meth c Q G D cA A l0 z0 ad0 st') : xWW p l e R s m args below meth c Q G D cA A l0 z0 ad0 st := by
  obtain ⟨hy, hx, hb, hml, hown, hT, har, hK, hE, hA, hfr, hlo, hin⟩ := C
  unfold xo_bast at h
  split at h
  · rename_i pc pl x i p stk nz sh M
    split at h
    · rename_i n hp
      cases hq : xoutB i n with
      | true => rw [hq] at h; cases h
      | false =>
        rw [hq] at h
        have h := Sum.inl.inj (Option.some.inj h)
        subst h
        intro ad H locs cells slots ls had hW hL hc hz
        simp only [List.map_cons, xcv_low (xlow hW hp)]
        exact va_bast hx hb hK hW.2.2.1 hW.2.2.2.1 hW.2.2.2.2 p 1 (xw_get hp) (xty_byte cA) (xoutB_in hq) hd (fun H1 locs1 hP hD hS => kk ad H1 locs1 cells slots ls had (xwo_row hW hp (upd (M p) i.toNatClampNeg (vp_nar .byte x)) hP hD hS) hL hc hz)
    · rename_i n hp
      cases hq : xoutB i n with
      | true => rw [hq] at h; cases h
      | false =>
        rw [hq] at h
        have h := Sum.inl.inj (Option.some.inj h)
        subst h
        intro ad H locs cells slots ls had hW hL hc hz
        simp only [List.map_cons, xcv_low (xlow hW hp)]
        exact va_zast hx hb hK hW.2.2.1 hW.2.2.2.1 hW.2.2.2.2 p 2 (xw_get hp) (xty_bool cA) (xoutB_in hq) hd (fun H1 locs1 hP hD hS => kk ad H1 locs1 cells slots ls had (xwo_row hW hp (upd (M p) i.toNatClampNeg (vp_nar .boolean x)) hP hD hS) hL hc hz)
    · cases h
  · cases h

theorem xalen {ad : Nat → Nat} {row : Nat → Int32} {ty : FieldType} {n : Nat} (hty : ty = .int ∨ ty = .byte ∨ ty = .boolean ∨ ty = .char) : ∃ t0 : Nat, (xty cA)[t0]? = some (cA ty, ty) := by
  rcases hty with rfl | rfl | rfl | rfl
  · exact ⟨0, rfl⟩
  · exact ⟨1, rfl⟩
  · exact ⟨2, rfl⟩
  · exact ⟨3, rfl⟩
theorem xs_alen {st st' : xS} (C : xCx p R s m args meth c G xs L D cA A y)  (hd : decode (xm y).2.1 st.1 = .ok (.arraylength, 1)) (h : xo_alen L st = some (.inl st')) (kk : xWW p l e R s m args below meth c Q G D cA A l0 z0 ad0 st') : xWW p l e R s m args below meth c Q G D cA A l0 z0 ad0 st := by
  obtain ⟨hy, hx, hb, hml, hown, hT, har, hK, hE, hA, hfr, hlo, hin⟩ := C
  unfold xo_alen at h
  split at h
  · rename_i pc pl p stk nz sh M
    cases h9 : Nat.beq p 999 with
    | true =>
      rw [h9] at h
      have e9 : p = 999 := Nat.eq_of_beq_eq_true h9
      subst e9
      have h := Sum.inl.inj (Option.some.inj h)
      subst h
      intro ad H locs cells slots ls had hW hL hc hz
      have e9 : xcv G ad (.ref 999) = .ref G.1 := by rw [xcv_ref (by omega), xad, if_neg (by omega), if_pos rfl]
      simp only [List.map_cons, e9]
      exact va_slen hx hb hE.2.2.2.2.1 hE.2.2.2.2.2.2.1 hE.2.2.2.2.2.1 hW.2.2.2.2 hd (kk ad H locs cells slots ls had hW hL hc hz)
    | false =>
      rw [h9] at h
      simp only [cond_false] at h
      cases h8 : Nat.ble 2000 p with
      | true =>
        rw [h8] at h
        simp only [cond_true] at h
        cases h7 : Nat.ble (p + 1) 2008 with
        | false => rw [h7] at h; cases h
        | true =>
          rw [h7] at h
          have h := Sum.inl.inj (Option.some.inj h)
          subst h
          have g1 := Nat.le_of_ble_eq_true h8
          have g2 := Nat.le_of_ble_eq_true h7
          intro ad H locs cells slots ls had hW hL hc hz
          have e9 : xcv G ad (.ref p) = .ref (G.2.2.1 (p - 2000)) := by rw [xcv_ref (by omega), xad, if_neg (by omega), if_neg (by omega), if_neg (by omega)]
          simp only [List.map_cons, e9]
          exact va_tlen hx hb (hE.1.1 (p - 2000) (by omega)).2.2.2 hW.2.2.2.2 rfl hd (kk ad H locs cells slots ls had hW hL hc hz)
      | false =>
        rw [h8] at h
        simp only [cond_false] at h
        split at h
        · rename_i n hp
          have h := Sum.inl.inj (Option.some.inj h)
          subst h
          intro ad H locs cells slots ls had hW hL hc hz
          simp only [List.map_cons, xcv_low (xlow hW hp)]
          exact va_alen hx hb hK hW.2.2.1 p 0 (xw_get hp) (xty_int cA) rfl hd (kk ad H locs cells slots ls had hW hL hc hz)
        · cases h
  · cases h

theorem xs_gets {st st' : xS} (C : xCx p R s m args meth c G xs L D cA A y) {idx a w : Nat} (hw0 : a = 0 → lw_tbl[w]? = some (.fieldLink (xow y) idx "java/lang/String" "COMPACT_STRINGS" "Z")) (hw1 : a = 1 → lw_tbl[w]? = some (.fieldLink (xow y) idx "jdk/internal/util/Preconditions" "SIOOBE_FORMATTER" "Ljava/util/function/BiFunction;")) (hd : decode (xm y).2.1 st.1 = .ok (.getstatic idx, 3)) (h : xo_gets a st = some (.inl st')) (kk : xWW p l e R s m args below meth c Q G D cA A l0 z0 ad0 st') : xWW p l e R s m args below meth c Q G D cA A l0 z0 ad0 st := by
  obtain ⟨hy, hx, hb, hml, hown, hT, har, hK, hE, hA, hfr, hlo, hin⟩ := C
  obtain ⟨pc, pl, stk, hh⟩ := st
  simp only [xo_gets] at h
  cases h0 : Nat.beq a 0 with
  | true =>
    rw [h0] at h
    have h := Sum.inl.inj (Option.some.inj h)
    subst h
    have e0 : a = 0 := Nat.eq_of_beq_eq_true h0
    intro ad H locs cells slots ls had hW hL hc hz
    exact va_gets hx hb hE.2.2.1 hW.2.2.2.2 hown (hT.at (hw0 e0) rfl args) (fun _ q => q) hd (kk ad H locs cells slots ls had hW hL hc hz)
  | false =>
    rw [h0] at h
    simp only [cond_false] at h
    cases h1 : Nat.beq a 1 with
    | false => rw [h1] at h; cases h
    | true =>
      rw [h1] at h
      have h := Sum.inl.inj (Option.some.inj h)
      subst h
      have e1 : a = 1 := Nat.eq_of_beq_eq_true h1
      intro ad H locs cells slots ls had hW hL hc hz
      have k := (kk ad H locs cells slots ls had hW hL hc hz)
      have e3 : xcv G ad (.ref 3000) = G.2.2.2 := by simp [xcv]
      simp only [List.map_cons, e3] at k
      exact va_gets hx hb hE.2.2.2.1 hW.2.2.2.2 hown (hT.at (hw1 e1) rfl args) (fun _ q => q) hd k

end XSNM
