/-! SOUNDNESS, 2: a step of the abstract machine is a step of the machine -/
def xtl : List FieldType := [.int, .byte, .boolean, .char]
def xty (cA : FieldType → ClassId) : List (ClassId × FieldType) := xtl.map (fun t => (cA t, t))
/-- the tables' words that every method may use -/
def xgw : Cond → Bool
  | .methodLinkNest .. => true
  | .arrayClass _ => false
  | w => w.onTables && w.keeps
theorem xgw_on {w : Cond} (h : xgw w = true) : w.onTables = true := by
  cases w <;> first | rfl | exact (Bool.and_eq_true_iff.mp h).1 | cases h
def xT (U : State) : Prop := ∀ w ∈ lw_tbl, xgw w = true → ∀ a : Array Value, w.before a U = true
theorem xT.same {u U : State} (h : u.vm = U.vm) (hT : xT u) : xT U := fun w hw hg a => va_tabs (xgw_on hg) h (hT w hw hg a)
theorem xT.warm {s U : State} (hW : s.WarmedH U.vm) (hT : xT s) : xT U := by
  intro w hw hg a
  have h0 := hT w hw hg a
  cases w with
  | methodLinkNest b i x h => exact va_Nw.use rfl (va_Nw.warmM hW (va_Nw.of rfl h0))
  | arrayClass ty => cases hg
  | _ => exact word_at hW (Or.inl hg) h0
theorem xT.at {U : State} (hT : xT U) {i : Nat} {w : Cond} (h : lw_tbl[i]? = some w) (hg : xgw w = true) (a : Array Value) : w.before a U = true := hT w (List.mem_of_getElem? h) hg a
/-- what lies outside the world, as it is at the start -/
def xEx (G : xG) (xs : Nat → Int32) (L : Nat) (A : Nat → Prop) (U : State) (H : Heap) : Prop := vk_S 8 xSl xSb G.2.1 G.2.2.1 A U H ∧ (∀ j, j < 8 → vk_R RX5 (xSk.getD j 0) (xSt.getD j "") (G.2.1 j) U) ∧ va_Z "java/lang/String" "COMPACT_STRINGS" "Z" (.int 1) A U H ∧ va_Z "jdk/internal/util/Preconditions" "SIOOBE_FORMATTER" "Ljava/util/function/BiFunction;" G.2.2.2 A U H ∧ va_X G.1 L xs U H ∧ ¬ A G.1 ∧ G.1 < H.size ∧ G.2.2.2.category = 1
/-- the world: cells, apart, and what has changed since the method's entry -/
def xWo (D : va_G) (cA : FieldType → ClassId) (A : Nat → Prop) (H0 : Heap) (ad : Nat → Nat) (nz : Nat) (sh : List xSh) (M : xM) (H : Heap) (locs : List Loc) : Prop := nz = sh.length ∧ nz ≤ 900 ∧ va_P D vwCl (xw ad cA sh M) H ∧ va_D A (xw ad cA sh M) ∧ va_S A H0 H locs
/-- the machine at an abstract state, wherever its cells lie -/
def xWW (p : Program) (l : Launch) (e : Env) (R : Room) (s : State) (m : MethodId) (args : Array Value) (below : List Frame) (meth : Method) (c : Code) (Q : State → Prop) (G : xG) (D : va_G) (cA : FieldType → ClassId) (A : Nat → Prop) (l0 z0 : Nat) (ad0 : Nat → Nat) (st : xS) : Prop :=
  ∀ (ad : Nat → Nat) (H : Heap) (locs : List Loc) (cells slots : Nat) (ls : Array Slot), (∀ k, k < l0 ∨ st.2.2.2.1 ≤ k → ad k = ad0 k) → xWo D cA A s.heap ad st.2.2.2.1 st.2.2.2.2.1 st.2.2.2.2.2 H locs → xLs G ad ls c.maxLocals st.2.1 → l0 + cells = st.2.2.2.1 → z0 + slots = xsl st.2.2.2.2.1 →
    W p l e R s m args below meth c H locs cells slots Q (F0 m st.1 ls (st.2.2.1.map (xcv G ad)))
/-- what a method's body stands on -/
def xCx (p : Program) (R : Room) (s : State) (m : MethodId) (args : Array Value) (meth : Method) (c : Code) (G : xG) (xs : Nat → Int32) (L : Nat) (D : va_G) (cA : FieldType → ClassId) (A : Nat → Prop) (y : Nat) : Prop :=
  y < xN ∧ p.tables.exec = Jvm.exec ∧ c.code = (xm y).2.1 ∧ c.maxLocals = (xm y).2.2.1 ∧ s.vm.findClass (xow y) = some m.cls ∧ xT s ∧ (∀ ty ∈ xtl, (Cond.arrayClass ty).before args s = true) ∧ va_K D vwCl (xty cA) s ∧ xEx G xs L A s s.heap ∧ (∀ q, s.heap.size ≤ q → A q) ∧ xfr y ≤ R.frames ∧ xlo y ≤ R.locals ∧ ((xm y).1.name = "<init>" → meth.name = "<init>")
section XSND
variable {p : Program} {l : Launch} {e : Env} {R : Room} {s : State} {m : MethodId} {args : Array Value} {below : List Frame} {meth : Method} {c : Code} {Q : State → Prop} {G : xG} {D : va_G} {cA : FieldType → ClassId} {A : Nat → Prop} {l0 z0 : Nat} {ad0 : Nat → Nat} {xs : Nat → Int32} {L y : Nat}
theorem xs_iconst {st st' : xS} (C : xCx p R s m args meth c G xs L D cA A y) {n : Int} (hd : decode (xm y).2.1 st.1 = .ok (.iconst n, 1)) (h : xo_const (.int (Int32.ofInt n)) 1 st = some (.inl st')) (kk : xWW p l e R s m args below meth c Q G D cA A l0 z0 ad0 st') : xWW p l e R s m args below meth c Q G D cA A l0 z0 ad0 st := by
  obtain ⟨hy, hx, hb, hml, hown, hT, har, hK, hE, hA, hfr, hlo, hin⟩ := C
  obtain ⟨pc, pl, stk, hh⟩ := st
  have h := Sum.inl.inj (Option.some.inj h)
  subst h
  intro ad H locs cells slots ls had hW hL hc hz
  exact lv_iconst hx hb hd rfl (kk ad H locs cells slots ls had hW hL hc hz)

theorem xs_bipush {st st' : xS} (C : xCx p R s m args meth c G xs L D cA A y) {n : Int} (hd : decode (xm y).2.1 st.1 = .ok (.bipush n, 2)) (h : xo_const (.int (Int8.ofInt n).toInt32) 2 st = some (.inl st')) (kk : xWW p l e R s m args below meth c Q G D cA A l0 z0 ad0 st') : xWW p l e R s m args below meth c Q G D cA A l0 z0 ad0 st := by
  obtain ⟨hy, hx, hb, hml, hown, hT, har, hK, hE, hA, hfr, hlo, hin⟩ := C
  obtain ⟨pc, pl, stk, hh⟩ := st
  have h := Sum.inl.inj (Option.some.inj h)
  subst h
  intro ad H locs cells slots ls had hW hL hc hz
  exact lv_bipush hx hb hd rfl (kk ad H locs cells slots ls had hW hL hc hz)

theorem xs_sipush {st st' : xS} (C : xCx p R s m args meth c G xs L D cA A y) {n : Int} (hd : decode (xm y).2.1 st.1 = .ok (.sipush n, 3)) (h : xo_const (.int (Int16.ofInt n).toInt32) 3 st = some (.inl st')) (kk : xWW p l e R s m args below meth c Q G D cA A l0 z0 ad0 st') : xWW p l e R s m args below meth c Q G D cA A l0 z0 ad0 st := by
  obtain ⟨hy, hx, hb, hml, hown, hT, har, hK, hE, hA, hfr, hlo, hin⟩ := C
  obtain ⟨pc, pl, stk, hh⟩ := st
  have h := Sum.inl.inj (Option.some.inj h)
  subst h
  intro ad H locs cells slots ls had hW hL hc hz
  exact lv_sipush hx hb hd rfl (kk ad H locs cells slots ls had hW hL hc hz)

theorem xs_lconst {st st' : xS} (C : xCx p R s m args meth c G xs L D cA A y) {n : Fin 2} (hd : decode (xm y).2.1 st.1 = .ok (.lconst n, 1)) (h : xo_const (.long (Int64.ofNat (n : Nat))) 1 st = some (.inl st')) (kk : xWW p l e R s m args below meth c Q G D cA A l0 z0 ad0 st') : xWW p l e R s m args below meth c Q G D cA A l0 z0 ad0 st := by
  obtain ⟨hy, hx, hb, hml, hown, hT, har, hK, hE, hA, hfr, hlo, hin⟩ := C
  obtain ⟨pc, pl, stk, hh⟩ := st
  have h := Sum.inl.inj (Option.some.inj h)
  subst h
  intro ad H locs cells slots ls had hW hL hc hz
  exact lv_lconst hx hb hd rfl (kk ad H locs cells slots ls had hW hL hc hz)

theorem xs_ldc2 {st st' : xS} (C : xCx p R s m args meth c G xs L D cA A y) {idx a w : Nat} (hw : lw_tbl[w]? = some (.constantLong (xow y) idx (Int64.ofNat a))) (hd : decode (xm y).2.1 st.1 = .ok (.ldc2_w idx, 3)) (h : xo_const (.long (Int64.ofNat a)) 3 st = some (.inl st')) (kk : xWW p l e R s m args below meth c Q G D cA A l0 z0 ad0 st') : xWW p l e R s m args below meth c Q G D cA A l0 z0 ad0 st := by
  obtain ⟨hy, hx, hb, hml, hown, hT, har, hK, hE, hA, hfr, hlo, hin⟩ := C
  obtain ⟨pc, pl, stk, hh⟩ := st
  have h := Sum.inl.inj (Option.some.inj h)
  subst h
  intro ad H locs cells slots ls had hW hL hc hz
  exact lv_ldc2 hx hb hown (hT.at hw rfl args) hd (kk ad H locs cells slots ls had hW hL hc hz)

theorem xs_ldc {st st' : xS} (C : xCx p R s m args meth c G xs L D cA A y) {idx a : Nat} (ha : a < 8) (ho : xow y = RX5) (hi : xSk.getD a 0 = idx) (hd : decode (xm y).2.1 st.1 = .ok (.ldc idx, 2)) (h : xo_const (.ref (1000 + a)) 2 st = some (.inl st')) (kk : xWW p l e R s m args below meth c Q G D cA A l0 z0 ad0 st') : xWW p l e R s m args below meth c Q G D cA A l0 z0 ad0 st := by
  obtain ⟨hy, hx, hb, hml, hown, hT, har, hK, hE, hA, hfr, hlo, hin⟩ := C
  obtain ⟨pc, pl, stk, hh⟩ := st
  have h := Sum.inl.inj (Option.some.inj h)
  subst h
  intro ad H locs cells slots ls had hW hL hc hz
  have k := (kk ad H locs cells slots ls had hW hL hc hz)
  rw [ho] at hown
  subst hi
  refine va_ldcS hx hb hown (hE.2.1 a ha) hd ?_
  have ea : xcv G ad (.ref (1000 + a)) = .ref (G.2.1 a) := by
    rw [xcv_ref (by omega), xad, if_neg (by omega), if_neg (by omega), if_pos (by omega), Nat.add_sub_cancel_left]
  rw [← ea]
  exact k

theorem xs_iload_n {st st' : xS} (C : xCx p R s m args meth c G xs L D cA A y) {k : Fin 4} (hd : decode (xm y).2.1 st.1 = .ok (.iload_n k, 1)) (h : xo_iload (k : Nat) 1 st = some (.inl st')) (kk : xWW p l e R s m args below meth c Q G D cA A l0 z0 ad0 st') : xWW p l e R s m args below meth c Q G D cA A l0 z0 ad0 st := by
  obtain ⟨hy, hx, hb, hml, hown, hT, har, hK, hE, hA, hfr, hlo, hin⟩ := C
  obtain ⟨pc, pl, stk, hh⟩ := st
  simp only [xo_iload] at h
  split at h
  · rename_i x hp
    have h := Sum.inl.inj (Option.some.inj h)
    subst h
    intro ad H locs cells slots ls had hW hL hc hz
    exact lv_iload_n hx hb hd rfl (hL.2.2.2 _ _ hp) (kk ad H locs cells slots ls had hW hL hc hz)
  · cases h

theorem xs_iload {st st' : xS} (C : xCx p R s m args meth c G xs L D cA A y) {k : Nat} (hd : decode (xm y).2.1 st.1 = .ok (.iload k, 2)) (h : xo_iload k 2 st = some (.inl st')) (kk : xWW p l e R s m args below meth c Q G D cA A l0 z0 ad0 st') : xWW p l e R s m args below meth c Q G D cA A l0 z0 ad0 st := by
  obtain ⟨hy, hx, hb, hml, hown, hT, har, hK, hE, hA, hfr, hlo, hin⟩ := C
  obtain ⟨pc, pl, stk, hh⟩ := st
  simp only [xo_iload] at h
  split at h
  · rename_i x hp
    have h := Sum.inl.inj (Option.some.inj h)
    subst h
    intro ad H locs cells slots ls had hW hL hc hz
    exact lv_iload hx hb hd (hL.2.2.2 _ _ hp) (kk ad H locs cells slots ls had hW hL hc hz)
  · cases h

theorem xs_lload_n {st st' : xS} (C : xCx p R s m args meth c G xs L D cA A y) {k : Fin 4} (hd : decode (xm y).2.1 st.1 = .ok (.lload_n k, 1)) (h : xo_lload (k : Nat) 1 st = some (.inl st')) (kk : xWW p l e R s m args below meth c Q G D cA A l0 z0 ad0 st') : xWW p l e R s m args below meth c Q G D cA A l0 z0 ad0 st := by
  obtain ⟨hy, hx, hb, hml, hown, hT, har, hK, hE, hA, hfr, hlo, hin⟩ := C
  obtain ⟨pc, pl, stk, hh⟩ := st
  simp only [xo_lload] at h
  split at h
  · rename_i x hp
    have h := Sum.inl.inj (Option.some.inj h)
    subst h
    intro ad H locs cells slots ls had hW hL hc hz
    exact lv_lload_n hx hb hd rfl (hL.2.2.2 _ _ hp) (kk ad H locs cells slots ls had hW hL hc hz)
  · cases h

theorem xs_lload {st st' : xS} (C : xCx p R s m args meth c G xs L D cA A y) {k : Nat} (hd : decode (xm y).2.1 st.1 = .ok (.lload k, 2)) (h : xo_lload k 2 st = some (.inl st')) (kk : xWW p l e R s m args below meth c Q G D cA A l0 z0 ad0 st') : xWW p l e R s m args below meth c Q G D cA A l0 z0 ad0 st := by
  obtain ⟨hy, hx, hb, hml, hown, hT, har, hK, hE, hA, hfr, hlo, hin⟩ := C
  obtain ⟨pc, pl, stk, hh⟩ := st
  simp only [xo_lload] at h
  split at h
  · rename_i x hp
    have h := Sum.inl.inj (Option.some.inj h)
    subst h
    intro ad H locs cells slots ls had hW hL hc hz
    exact lv_lload hx hb hd (hL.2.2.2 _ _ hp) (kk ad H locs cells slots ls had hW hL hc hz)
  · cases h

theorem xs_aload_n {st st' : xS} (C : xCx p R s m args meth c G xs L D cA A y) {k : Fin 4} (hd : decode (xm y).2.1 st.1 = .ok (.aload_n k, 1)) (h : xo_aload (k : Nat) 1 st = some (.inl st')) (kk : xWW p l e R s m args below meth c Q G D cA A l0 z0 ad0 st') : xWW p l e R s m args below meth c Q G D cA A l0 z0 ad0 st := by
  obtain ⟨hy, hx, hb, hml, hown, hT, har, hK, hE, hA, hfr, hlo, hin⟩ := C
  obtain ⟨pc, pl, stk, hh⟩ := st
  simp only [xo_aload] at h
  split at h
  · rename_i x hp
    cases hq : Nat.ble 3000 x with
    | true => rw [hq] at h; cases h
    | false =>
      rw [hq] at h
      have h := Sum.inl.inj (Option.some.inj h)
      subst h
      have hx3 : x < 3000 := by
        rcases Nat.lt_or_ge x 3000 with q | q
        · exact q
        · rw [Nat.ble_eq_true_of_le q] at hq; cases hq
      intro ad H locs cells slots ls had hW hL hc hz
      have k := (kk ad H locs cells slots ls had hW hL hc hz)
      have hp' := hL.2.2.2 _ _ hp
      simp only [List.map_cons, xcv_ref hx3] at k hp'
      exact lv_aload_n hx hb hd rfl hp' k
  · cases h

theorem xs_istore_n {st st' : xS} (C : xCx p R s m args meth c G xs L D cA A y) {k : Fin 4} (hd : decode (xm y).2.1 st.1 = .ok (.istore_n k, 1)) (h : xo_istore (k : Nat) 1 st = some (.inl st')) (kk : xWW p l e R s m args below meth c Q G D cA A l0 z0 ad0 st') : xWW p l e R s m args below meth c Q G D cA A l0 z0 ad0 st := by
  obtain ⟨hy, hx, hb, hml, hown, hT, har, hK, hE, hA, hfr, hlo, hin⟩ := C
  unfold xo_istore at h
  split at h
  · rename_i pc pl x stk hh
    cases hq : xok1 pl (k : Nat) with
    | false => rw [hq] at h; cases h
    | true =>
      rw [hq] at h
      have h := Sum.inl.inj (Option.some.inj h)
      subst h
      intro ad H locs cells slots ls had hW hL hc hz
      have hlt : (k : Nat) < c.maxLocals := by
        simp only [xok1, Bool.and_eq_true, Nat.ble_eq] at hq
        have hl1 : pl.length = c.maxLocals := hL.1
        omega
      exact lv_istore_n hx hb hd rfl hL.has hlt rfl (fun ls' hl => kk ad H locs cells slots ls' had hW (xLs.set hE.2.2.2.2.2.2.2 (v := .int x) hL hq hl) hc hz)
  · cases h

theorem xs_astore_n {st st' : xS} (C : xCx p R s m args meth c G xs L D cA A y) {k : Fin 4} (hd : decode (xm y).2.1 st.1 = .ok (.astore_n k, 1)) (h : xo_astore (k : Nat) 1 st = some (.inl st')) (kk : xWW p l e R s m args below meth c Q G D cA A l0 z0 ad0 st') : xWW p l e R s m args below meth c Q G D cA A l0 z0 ad0 st := by
  obtain ⟨hy, hx, hb, hml, hown, hT, har, hK, hE, hA, hfr, hlo, hin⟩ := C
  unfold xo_astore at h
  split at h
  · rename_i pc pl x stk hh
    cases hq : xok1 pl (k : Nat) && Nat.ble (x + 1) 3000 with
    | false => rw [hq] at h; cases h
    | true =>
      rw [hq] at h
      have h := Sum.inl.inj (Option.some.inj h)
      subst h
      simp only [Bool.and_eq_true, Nat.ble_eq] at hq
      have hx3 : x < 3000 := hq.2
      intro ad H locs cells slots ls had hW hL hc hz
      have hlt : (k : Nat) < c.maxLocals := by
        have hq1 := hq.1
        simp only [xok1, Bool.and_eq_true, Nat.ble_eq] at hq1
        have hl1 : pl.length = c.maxLocals := hL.1
        omega
      simp only [List.map_cons, xcv_ref hx3]
      refine lv_astore_n hx hb hd rfl hL.has hlt rfl (fun ls' hl => kk ad H locs cells slots ls' had hW (xLs.set hE.2.2.2.2.2.2.2 (v := .ref x) hL hq.1 ?_) hc hz)
      rw [xcv_ref hx3]
      exact hl
  · cases h

theorem xs_aload {st st' : xS} (C : xCx p R s m args meth c G xs L D cA A y) {k : Nat} (hd : decode (xm y).2.1 st.1 = .ok (.aload k, 2)) (h : xo_aload k 2 st = some (.inl st')) (kk : xWW p l e R s m args below meth c Q G D cA A l0 z0 ad0 st') : xWW p l e R s m args below meth c Q G D cA A l0 z0 ad0 st := by
  obtain ⟨hy, hx, hb, hml, hown, hT, har, hK, hE, hA, hfr, hlo, hin⟩ := C
  obtain ⟨pc, pl, stk, hh⟩ := st
  simp only [xo_aload] at h
  split at h
  · rename_i x hp
    cases hq : Nat.ble 3000 x with
    | true => rw [hq] at h; cases h
    | false =>
      rw [hq] at h
      have h := Sum.inl.inj (Option.some.inj h)
      subst h
      have hx3 : x < 3000 := by
        rcases Nat.lt_or_ge x 3000 with q | q
        · exact q
        · rw [Nat.ble_eq_true_of_le q] at hq; cases hq
      intro ad H locs cells slots ls had hW hL hc hz
      have k := (kk ad H locs cells slots ls had hW hL hc hz)
      have hp' := hL.2.2.2 _ _ hp
      simp only [List.map_cons, xcv_ref hx3] at k hp'
      exact lv_aload hx hb hd hp' k
  · cases h

theorem xs_istore {st st' : xS} (C : xCx p R s m args meth c G xs L D cA A y) {k : Nat} (hd : decode (xm y).2.1 st.1 = .ok (.istore k, 2)) (h : xo_istore k 2 st = some (.inl st')) (kk : xWW p l e R s m args below meth c Q G D cA A l0 z0 ad0 st') : xWW p l e R s m args below meth c Q G D cA A l0 z0 ad0 st := by
  obtain ⟨hy, hx, hb, hml, hown, hT, har, hK, hE, hA, hfr, hlo, hin⟩ := C
  unfold xo_istore at h
  split at h
  · rename_i pc pl x stk hh
    cases hq : xok1 pl k with
    | false => rw [hq] at h; cases h
    | true =>
      rw [hq] at h
      have h := Sum.inl.inj (Option.some.inj h)
      subst h
      intro ad H locs cells slots ls had hW hL hc hz
      have hlt : k < c.maxLocals := by
        simp only [xok1, Bool.and_eq_true, Nat.ble_eq] at hq
        have hl1 : pl.length = c.maxLocals := hL.1
        omega
      exact lv_istore hx hb hd hL.has hlt rfl (fun ls' hl => kk ad H locs cells slots ls' had hW (xLs.set hE.2.2.2.2.2.2.2 (v := .int x) hL hq hl) hc hz)
  · cases h

theorem xs_astore {st st' : xS} (C : xCx p R s m args meth c G xs L D cA A y) {k : Nat} (hd : decode (xm y).2.1 st.1 = .ok (.astore k, 2)) (h : xo_astore k 2 st = some (.inl st')) (kk : xWW p l e R s m args below meth c Q G D cA A l0 z0 ad0 st') : xWW p l e R s m args below meth c Q G D cA A l0 z0 ad0 st := by
  obtain ⟨hy, hx, hb, hml, hown, hT, har, hK, hE, hA, hfr, hlo, hin⟩ := C
  unfold xo_astore at h
  split at h
  · rename_i pc pl x stk hh
    cases hq : xok1 pl k && Nat.ble (x + 1) 3000 with
    | false => rw [hq] at h; cases h
    | true =>
      rw [hq] at h
      have h := Sum.inl.inj (Option.some.inj h)
      subst h
      simp only [Bool.and_eq_true, Nat.ble_eq] at hq
      have hx3 : x < 3000 := hq.2
      intro ad H locs cells slots ls had hW hL hc hz
      have hlt : k < c.maxLocals := by
        have hq1 := hq.1
        simp only [xok1, Bool.and_eq_true, Nat.ble_eq] at hq1
        have hl1 : pl.length = c.maxLocals := hL.1
        omega
      simp only [List.map_cons, xcv_ref hx3]
      refine lv_astore hx hb hd hL.has hlt rfl (fun ls' hl => kk ad H locs cells slots ls' had hW (xLs.set hE.2.2.2.2.2.2.2 (v := .ref x) hL hq.1 ?_) hc hz)
      rw [xcv_ref hx3]
      exact hl
  · cases h

theorem xs_iinc {st st' : xS} (C : xCx p R s m args meth c G xs L D cA A y) {i len : Nat} {n : Int} (hl3 : len = 3) (hd : decode (xm y).2.1 st.1 = .ok (.iinc i n, len)) (h : xo_iinc i n len st = some (.inl st')) (kk : xWW p l e R s m args below meth c Q G D cA A l0 z0 ad0 st') : xWW p l e R s m args below meth c Q G D cA A l0 z0 ad0 st := by
  obtain ⟨hy, hx, hb, hml, hown, hT, har, hK, hE, hA, hfr, hlo, hin⟩ := C
  obtain ⟨pc, pl, stk, hh⟩ := st
  subst hl3
  simp only [xo_iinc] at h
  split at h
  · rename_i x hp
    cases hq : xok1 pl i with
    | false => rw [hq] at h; cases h
    | true =>
      rw [hq] at h
      have h := Sum.inl.inj (Option.some.inj h)
      subst h
      intro ad H locs cells slots ls had hW hL hc hz
      have hlt : i < c.maxLocals := by
        have hq1 := hq
        simp only [xok1, Bool.and_eq_true, Nat.ble_eq] at hq1
        have hl1 : pl.length = c.maxLocals := hL.1
        omega
      obtain ⟨k, hk⟩ := List.getElem?_of_mem (xpr_mem (G := G) (ad := ad) hp)
      exact lv_iinc hx hb hd hL.has hk rfl hlt rfl (fun ls' hl => kk ad H locs cells slots ls' had hW (xLs.set hE.2.2.2.2.2.2.2 (v := .int (x + Int32.ofInt n)) hL hq hl) hc hz)
  · cases h

theorem xs_iadd {st st' : xS} (C : xCx p R s m args meth c G xs L D cA A y)  (hd : decode (xm y).2.1 st.1 = .ok (.iadd, 1)) (h : xo_bin (fun x y => x + y) st = some (.inl st')) (kk : xWW p l e R s m args below meth c Q G D cA A l0 z0 ad0 st') : xWW p l e R s m args below meth c Q G D cA A l0 z0 ad0 st := by
  obtain ⟨hy, hx, hb, hml, hown, hT, har, hK, hE, hA, hfr, hlo, hin⟩ := C
  unfold xo_bin at h
  split at h
  · have h := Sum.inl.inj (Option.some.inj h)
    subst h
    intro ad H locs cells slots ls had hW hL hc hz
    exact lv_iadd hx hb hd (kk ad H locs cells slots ls had hW hL hc hz)
  · cases h

theorem xs_isub {st st' : xS} (C : xCx p R s m args meth c G xs L D cA A y)  (hd : decode (xm y).2.1 st.1 = .ok (.isub, 1)) (h : xo_bin (fun x y => x - y) st = some (.inl st')) (kk : xWW p l e R s m args below meth c Q G D cA A l0 z0 ad0 st') : xWW p l e R s m args below meth c Q G D cA A l0 z0 ad0 st := by
  obtain ⟨hy, hx, hb, hml, hown, hT, har, hK, hE, hA, hfr, hlo, hin⟩ := C
  unfold xo_bin at h
  split at h
  · have h := Sum.inl.inj (Option.some.inj h)
    subst h
    intro ad H locs cells slots ls had hW hL hc hz
    exact lv_isub hx hb hd (kk ad H locs cells slots ls had hW hL hc hz)
  · cases h

theorem xs_imul {st st' : xS} (C : xCx p R s m args meth c G xs L D cA A y)  (hd : decode (xm y).2.1 st.1 = .ok (.imul, 1)) (h : xo_bin (fun x y => x * y) st = some (.inl st')) (kk : xWW p l e R s m args below meth c Q G D cA A l0 z0 ad0 st') : xWW p l e R s m args below meth c Q G D cA A l0 z0 ad0 st := by
  obtain ⟨hy, hx, hb, hml, hown, hT, har, hK, hE, hA, hfr, hlo, hin⟩ := C
  unfold xo_bin at h
  split at h
  · have h := Sum.inl.inj (Option.some.inj h)
    subst h
    intro ad H locs cells slots ls had hW hL hc hz
    exact lv_imul hx hb hd (kk ad H locs cells slots ls had hW hL hc hz)
  · cases h

theorem xs_iand {st st' : xS} (C : xCx p R s m args meth c G xs L D cA A y)  (hd : decode (xm y).2.1 st.1 = .ok (.iand, 1)) (h : xo_bin (fun x y => x &&& y) st = some (.inl st')) (kk : xWW p l e R s m args below meth c Q G D cA A l0 z0 ad0 st') : xWW p l e R s m args below meth c Q G D cA A l0 z0 ad0 st := by
  obtain ⟨hy, hx, hb, hml, hown, hT, har, hK, hE, hA, hfr, hlo, hin⟩ := C
  unfold xo_bin at h
  split at h
  · have h := Sum.inl.inj (Option.some.inj h)
    subst h
    intro ad H locs cells slots ls had hW hL hc hz
    exact lv_iand hx hb hd (kk ad H locs cells slots ls had hW hL hc hz)
  · cases h

theorem xs_ior {st st' : xS} (C : xCx p R s m args meth c G xs L D cA A y)  (hd : decode (xm y).2.1 st.1 = .ok (.ior, 1)) (h : xo_bin (fun x y => x ||| y) st = some (.inl st')) (kk : xWW p l e R s m args below meth c Q G D cA A l0 z0 ad0 st') : xWW p l e R s m args below meth c Q G D cA A l0 z0 ad0 st := by
  obtain ⟨hy, hx, hb, hml, hown, hT, har, hK, hE, hA, hfr, hlo, hin⟩ := C
  unfold xo_bin at h
  split at h
  · have h := Sum.inl.inj (Option.some.inj h)
    subst h
    intro ad H locs cells slots ls had hW hL hc hz
    exact lv_ior hx hb hd (kk ad H locs cells slots ls had hW hL hc hz)
  · cases h

theorem xs_ixor {st st' : xS} (C : xCx p R s m args meth c G xs L D cA A y)  (hd : decode (xm y).2.1 st.1 = .ok (.ixor, 1)) (h : xo_bin (fun x y => x ^^^ y) st = some (.inl st')) (kk : xWW p l e R s m args below meth c Q G D cA A l0 z0 ad0 st') : xWW p l e R s m args below meth c Q G D cA A l0 z0 ad0 st := by
  obtain ⟨hy, hx, hb, hml, hown, hT, har, hK, hE, hA, hfr, hlo, hin⟩ := C
  unfold xo_bin at h
  split at h
  · have h := Sum.inl.inj (Option.some.inj h)
    subst h
    intro ad H locs cells slots ls had hW hL hc hz
    exact lv_ixor hx hb hd (kk ad H locs cells slots ls had hW hL hc hz)
  · cases h

theorem xs_ishl {st st' : xS} (C : xCx p R s m args meth c G xs L D cA A y)  (hd : decode (xm y).2.1 st.1 = .ok (.ishl, 1)) (h : xo_bin (fun x y => x <<< (y &&& 31)) st = some (.inl st')) (kk : xWW p l e R s m args below meth c Q G D cA A l0 z0 ad0 st') : xWW p l e R s m args below meth c Q G D cA A l0 z0 ad0 st := by
  obtain ⟨hy, hx, hb, hml, hown, hT, har, hK, hE, hA, hfr, hlo, hin⟩ := C
  unfold xo_bin at h
  split at h
  · have h := Sum.inl.inj (Option.some.inj h)
    subst h
    intro ad H locs cells slots ls had hW hL hc hz
    exact lv_ishl hx hb hd (kk ad H locs cells slots ls had hW hL hc hz)
  · cases h

theorem xs_ishr {st st' : xS} (C : xCx p R s m args meth c G xs L D cA A y)  (hd : decode (xm y).2.1 st.1 = .ok (.ishr, 1)) (h : xo_bin (fun x y => x >>> (y &&& 31)) st = some (.inl st')) (kk : xWW p l e R s m args below meth c Q G D cA A l0 z0 ad0 st') : xWW p l e R s m args below meth c Q G D cA A l0 z0 ad0 st := by
  obtain ⟨hy, hx, hb, hml, hown, hT, har, hK, hE, hA, hfr, hlo, hin⟩ := C
  unfold xo_bin at h
  split at h
  · have h := Sum.inl.inj (Option.some.inj h)
    subst h
    intro ad H locs cells slots ls had hW hL hc hz
    exact lv_ishr hx hb hd (kk ad H locs cells slots ls had hW hL hc hz)
  · cases h

theorem xs_iushr {st st' : xS} (C : xCx p R s m args meth c G xs L D cA A y)  (hd : decode (xm y).2.1 st.1 = .ok (.iushr, 1)) (h : xo_bin (fun x y => (x.toUInt32 >>> (y.toUInt32 &&& Int32.toUInt32 31)).toInt32) st = some (.inl st')) (kk : xWW p l e R s m args below meth c Q G D cA A l0 z0 ad0 st') : xWW p l e R s m args below meth c Q G D cA A l0 z0 ad0 st := by
  obtain ⟨hy, hx, hb, hml, hown, hT, har, hK, hE, hA, hfr, hlo, hin⟩ := C
  unfold xo_bin at h
  split at h
  · have h := Sum.inl.inj (Option.some.inj h)
    subst h
    intro ad H locs cells slots ls had hW hL hc hz
    exact lv_iushr hx hb hd rfl (kk ad H locs cells slots ls had hW hL hc hz)
  · cases h

theorem xs_land {st st' : xS} (C : xCx p R s m args meth c G xs L D cA A y)  (hd : decode (xm y).2.1 st.1 = .ok (.land, 1)) (h : xo_lbin (fun x y => x &&& y) st = some (.inl st')) (kk : xWW p l e R s m args below meth c Q G D cA A l0 z0 ad0 st') : xWW p l e R s m args below meth c Q G D cA A l0 z0 ad0 st := by
  obtain ⟨hy, hx, hb, hml, hown, hT, har, hK, hE, hA, hfr, hlo, hin⟩ := C
  unfold xo_lbin at h
  split at h
  · have h := Sum.inl.inj (Option.some.inj h)
    subst h
    intro ad H locs cells slots ls had hW hL hc hz
    exact lv_land hx hb hd (kk ad H locs cells slots ls had hW hL hc hz)
  · cases h

theorem xs_lor {st st' : xS} (C : xCx p R s m args meth c G xs L D cA A y)  (hd : decode (xm y).2.1 st.1 = .ok (.lor, 1)) (h : xo_lbin (fun x y => x ||| y) st = some (.inl st')) (kk : xWW p l e R s m args below meth c Q G D cA A l0 z0 ad0 st') : xWW p l e R s m args below meth c Q G D cA A l0 z0 ad0 st := by
  obtain ⟨hy, hx, hb, hml, hown, hT, har, hK, hE, hA, hfr, hlo, hin⟩ := C
  unfold xo_lbin at h
  split at h
  · have h := Sum.inl.inj (Option.some.inj h)
    subst h
    intro ad H locs cells slots ls had hW hL hc hz
    exact lv_lor hx hb hd (kk ad H locs cells slots ls had hW hL hc hz)
  · cases h

theorem xs_lshl {st st' : xS} (C : xCx p R s m args meth c G xs L D cA A y)  (hd : decode (xm y).2.1 st.1 = .ok (.lshl, 1)) (h : xo_lsh (fun x y => x <<< (y.toInt64 &&& 63)) st = some (.inl st')) (kk : xWW p l e R s m args below meth c Q G D cA A l0 z0 ad0 st') : xWW p l e R s m args below meth c Q G D cA A l0 z0 ad0 st := by
  obtain ⟨hy, hx, hb, hml, hown, hT, har, hK, hE, hA, hfr, hlo, hin⟩ := C
  unfold xo_lsh at h
  split at h
  · have h := Sum.inl.inj (Option.some.inj h)
    subst h
    intro ad H locs cells slots ls had hW hL hc hz
    exact lv_lshl hx hb hd rfl (kk ad H locs cells slots ls had hW hL hc hz)
  · cases h

theorem xs_lshr {st st' : xS} (C : xCx p R s m args meth c G xs L D cA A y)  (hd : decode (xm y).2.1 st.1 = .ok (.lshr, 1)) (h : xo_lsh (fun x y => x >>> (y.toInt64 &&& 63)) st = some (.inl st')) (kk : xWW p l e R s m args below meth c Q G D cA A l0 z0 ad0 st') : xWW p l e R s m args below meth c Q G D cA A l0 z0 ad0 st := by
  obtain ⟨hy, hx, hb, hml, hown, hT, har, hK, hE, hA, hfr, hlo, hin⟩ := C
  unfold xo_lsh at h
  split at h
  · have h := Sum.inl.inj (Option.some.inj h)
    subst h
    intro ad H locs cells slots ls had hW hL hc hz
    exact lv_lshr hx hb hd rfl (kk ad H locs cells slots ls had hW hL hc hz)
  · cases h

theorem xs_lushr {st st' : xS} (C : xCx p R s m args meth c G xs L D cA A y)  (hd : decode (xm y).2.1 st.1 = .ok (.lushr, 1)) (h : xo_lsh (fun x y => (x.toUInt64 >>> (y.toInt64.toUInt64 &&& Int64.toUInt64 63)).toInt64) st = some (.inl st')) (kk : xWW p l e R s m args below meth c Q G D cA A l0 z0 ad0 st') : xWW p l e R s m args below meth c Q G D cA A l0 z0 ad0 st := by
  obtain ⟨hy, hx, hb, hml, hown, hT, har, hK, hE, hA, hfr, hlo, hin⟩ := C
  unfold xo_lsh at h
  split at h
  · have h := Sum.inl.inj (Option.some.inj h)
    subst h
    intro ad H locs cells slots ls had hW hL hc hz
    exact lv_lushr hx hb hd rfl (kk ad H locs cells slots ls had hW hL hc hz)
  · cases h

theorem xs_i2b {st st' : xS} (C : xCx p R s m args meth c G xs L D cA A y)  (hd : decode (xm y).2.1 st.1 = .ok (.i2b, 1)) (h : xo_un (fun x => x.toInt8.toInt32) st = some (.inl st')) (kk : xWW p l e R s m args below meth c Q G D cA A l0 z0 ad0 st') : xWW p l e R s m args below meth c Q G D cA A l0 z0 ad0 st := by
  obtain ⟨hy, hx, hb, hml, hown, hT, har, hK, hE, hA, hfr, hlo, hin⟩ := C
  unfold xo_un at h
  split at h
  · have h := Sum.inl.inj (Option.some.inj h)
    subst h
    intro ad H locs cells slots ls had hW hL hc hz
    exact lv_i2b hx hb hd rfl (kk ad H locs cells slots ls had hW hL hc hz)
  · cases h

theorem xs_i2c {st st' : xS} (C : xCx p R s m args meth c G xs L D cA A y)  (hd : decode (xm y).2.1 st.1 = .ok (.i2c, 1)) (h : xo_un (fun x => (x.toUInt32 % 65536).toInt32) st = some (.inl st')) (kk : xWW p l e R s m args below meth c Q G D cA A l0 z0 ad0 st') : xWW p l e R s m args below meth c Q G D cA A l0 z0 ad0 st := by
  obtain ⟨hy, hx, hb, hml, hown, hT, har, hK, hE, hA, hfr, hlo, hin⟩ := C
  unfold xo_un at h
  split at h
  · have h := Sum.inl.inj (Option.some.inj h)
    subst h
    intro ad H locs cells slots ls had hW hL hc hz
    exact lv_i2c hx hb hd rfl (kk ad H locs cells slots ls had hW hL hc hz)
  · cases h

theorem xs_i2l {st st' : xS} (C : xCx p R s m args meth c G xs L D cA A y)  (hd : decode (xm y).2.1 st.1 = .ok (.i2l, 1)) (h : xo_i2l st = some (.inl st')) (kk : xWW p l e R s m args below meth c Q G D cA A l0 z0 ad0 st') : xWW p l e R s m args below meth c Q G D cA A l0 z0 ad0 st := by
  obtain ⟨hy, hx, hb, hml, hown, hT, har, hK, hE, hA, hfr, hlo, hin⟩ := C
  unfold xo_i2l at h
  split at h
  · have h := Sum.inl.inj (Option.some.inj h)
    subst h
    intro ad H locs cells slots ls had hW hL hc hz
    exact lv_i2l hx hb hd rfl (kk ad H locs cells slots ls had hW hL hc hz)
  · cases h

theorem xs_l2i {st st' : xS} (C : xCx p R s m args meth c G xs L D cA A y)  (hd : decode (xm y).2.1 st.1 = .ok (.l2i, 1)) (h : xo_l2i st = some (.inl st')) (kk : xWW p l e R s m args below meth c Q G D cA A l0 z0 ad0 st') : xWW p l e R s m args below meth c Q G D cA A l0 z0 ad0 st := by
  obtain ⟨hy, hx, hb, hml, hown, hT, har, hK, hE, hA, hfr, hlo, hin⟩ := C
  unfold xo_l2i at h
  split at h
  · have h := Sum.inl.inj (Option.some.inj h)
    subst h
    intro ad H locs cells slots ls had hW hL hc hz
    exact lv_l2i hx hb hd rfl (kk ad H locs cells slots ls had hW hL hc hz)
  · cases h

theorem xs_lcmp {st st' : xS} (C : xCx p R s m args meth c G xs L D cA A y)  (hd : decode (xm y).2.1 st.1 = .ok (.lcmp, 1)) (h : xo_lcmp st = some (.inl st')) (kk : xWW p l e R s m args below meth c Q G D cA A l0 z0 ad0 st') : xWW p l e R s m args below meth c Q G D cA A l0 z0 ad0 st := by
  obtain ⟨hy, hx, hb, hml, hown, hT, har, hK, hE, hA, hfr, hlo, hin⟩ := C
  unfold xo_lcmp at h
  split at h
  · have h := Sum.inl.inj (Option.some.inj h)
    subst h
    intro ad H locs cells slots ls had hW hL hc hz
    exact W.lcmp hx hb hd (kk ad H locs cells slots ls had hW hL hc hz)
  · cases h

theorem xs_idiv {st st' : xS} (C : xCx p R s m args meth c G xs L D cA A y)  (hd : decode (xm y).2.1 st.1 = .ok (.idiv, 1)) (h : xo_div (fun x y => x / y) st = some (.inl st')) (kk : xWW p l e R s m args below meth c Q G D cA A l0 z0 ad0 st') : xWW p l e R s m args below meth c Q G D cA A l0 z0 ad0 st := by
  obtain ⟨hy, hx, hb, hml, hown, hT, har, hK, hE, hA, hfr, hlo, hin⟩ := C
  unfold xo_div at h
  split at h
  · split at h
    · cases h
    · rename_i hne
      have h := Sum.inl.inj (Option.some.inj h)
      subst h
      intro ad H locs cells slots ls had hW hL hc hz
      exact lv_idiv hx hb hd hne (kk ad H locs cells slots ls had hW hL hc hz)
  · cases h

theorem xs_irem {st st' : xS} (C : xCx p R s m args meth c G xs L D cA A y)  (hd : decode (xm y).2.1 st.1 = .ok (.irem, 1)) (h : xo_div (fun x y => x - x / y * y) st = some (.inl st')) (kk : xWW p l e R s m args below meth c Q G D cA A l0 z0 ad0 st') : xWW p l e R s m args below meth c Q G D cA A l0 z0 ad0 st := by
  obtain ⟨hy, hx, hb, hml, hown, hT, har, hK, hE, hA, hfr, hlo, hin⟩ := C
  unfold xo_div at h
  split at h
  · split at h
    · cases h
    · rename_i hne
      have h := Sum.inl.inj (Option.some.inj h)
      subst h
      intro ad H locs cells slots ls had hW hL hc hz
      exact lv_irem hx hb hd hne (kk ad H locs cells slots ls had hW hL hc hz)
  · cases h

theorem xs_pop {st st' : xS} (C : xCx p R s m args meth c G xs L D cA A y)  (hd : decode (xm y).2.1 st.1 = .ok (.pop, 1)) (h : xo_pop st = some (.inl st')) (kk : xWW p l e R s m args below meth c Q G D cA A l0 z0 ad0 st') : xWW p l e R s m args below meth c Q G D cA A l0 z0 ad0 st := by
  obtain ⟨hy, hx, hb, hml, hown, hT, har, hK, hE, hA, hfr, hlo, hin⟩ := C
  unfold xo_pop at h
  split at h
  · rename_i pc pl v stk hh
    cases hq : xc1 v with
    | false => rw [hq] at h; cases h
    | true =>
      rw [hq] at h
      have h := Sum.inl.inj (Option.some.inj h)
      subst h
      
      intro ad H locs cells slots ls had hW hL hc hz
      exact lv_pop hx hb hd (by rw [xcv_cat hE.2.2.2.2.2.2.2]; simpa [xc1] using hq) (kk ad H locs cells slots ls had hW hL hc hz)
  · cases h

theorem xs_dup {st st' : xS} (C : xCx p R s m args meth c G xs L D cA A y)  (hd : decode (xm y).2.1 st.1 = .ok (.dup, 1)) (h : xo_dup st = some (.inl st')) (kk : xWW p l e R s m args below meth c Q G D cA A l0 z0 ad0 st') : xWW p l e R s m args below meth c Q G D cA A l0 z0 ad0 st := by
  obtain ⟨hy, hx, hb, hml, hown, hT, har, hK, hE, hA, hfr, hlo, hin⟩ := C
  unfold xo_dup at h
  split at h
  · rename_i pc pl v stk hh
    cases hq : xc1 v with
    | false => rw [hq] at h; cases h
    | true =>
      rw [hq] at h
      have h := Sum.inl.inj (Option.some.inj h)
      subst h
      
      intro ad H locs cells slots ls had hW hL hc hz
      exact lv_dup hx hb hd (by rw [xcv_cat hE.2.2.2.2.2.2.2]; simpa [xc1] using hq) (kk ad H locs cells slots ls had hW hL hc hz)
  · cases h

theorem xs_dup_x1 {st st' : xS} (C : xCx p R s m args meth c G xs L D cA A y)  (hd : decode (xm y).2.1 st.1 = .ok (.dup_x1, 1)) (h : xo_dup_x1 st = some (.inl st')) (kk : xWW p l e R s m args below meth c Q G D cA A l0 z0 ad0 st') : xWW p l e R s m args below meth c Q G D cA A l0 z0 ad0 st := by
  obtain ⟨hy, hx, hb, hml, hown, hT, har, hK, hE, hA, hfr, hlo, hin⟩ := C
  unfold xo_dup_x1 at h
  split at h
  · rename_i pc pl v w stk hh
    cases hq : xc1 v && xc1 w with
    | false => rw [hq] at h; cases h
    | true =>
      rw [hq] at h
      have h := Sum.inl.inj (Option.some.inj h)
      subst h
      simp only [Bool.and_eq_true] at hq
      intro ad H locs cells slots ls had hW hL hc hz
      exact lv_dup_x1 hx hb hd (by rw [xcv_cat hE.2.2.2.2.2.2.2]; simpa [xc1] using hq.1) (by rw [xcv_cat hE.2.2.2.2.2.2.2]; simpa [xc1] using hq.2) (kk ad H locs cells slots ls had hW hL hc hz)
  · cases h

theorem xs_dup_x2 {st st' : xS} (C : xCx p R s m args meth c G xs L D cA A y)  (hd : decode (xm y).2.1 st.1 = .ok (.dup_x2, 1)) (h : xo_dup_x2 st = some (.inl st')) (kk : xWW p l e R s m args below meth c Q G D cA A l0 z0 ad0 st') : xWW p l e R s m args below meth c Q G D cA A l0 z0 ad0 st := by
  obtain ⟨hy, hx, hb, hml, hown, hT, har, hK, hE, hA, hfr, hlo, hin⟩ := C
  unfold xo_dup_x2 at h
  split at h
  · rename_i pc pl v w u stk hh
    cases hq : xc1 v && xc1 w && xc1 u with
    | false => rw [hq] at h; cases h
    | true =>
      rw [hq] at h
      have h := Sum.inl.inj (Option.some.inj h)
      subst h
      simp only [Bool.and_eq_true] at hq
      intro ad H locs cells slots ls had hW hL hc hz
      exact lv_dup_x2 hx hb hd (by rw [xcv_cat hE.2.2.2.2.2.2.2]; simpa [xc1] using hq.1.1) (by rw [xcv_cat hE.2.2.2.2.2.2.2]; simpa [xc1] using hq.1.2) (by rw [xcv_cat hE.2.2.2.2.2.2.2]; simpa [xc1] using hq.2) (kk ad H locs cells slots ls had hW hL hc hz)
  · cases h

theorem xs_dup2 {st st' : xS} (C : xCx p R s m args meth c G xs L D cA A y)  (hd : decode (xm y).2.1 st.1 = .ok (.dup2, 1)) (h : xo_dup2 st = some (.inl st')) (kk : xWW p l e R s m args below meth c Q G D cA A l0 z0 ad0 st') : xWW p l e R s m args below meth c Q G D cA A l0 z0 ad0 st := by
  obtain ⟨hy, hx, hb, hml, hown, hT, har, hK, hE, hA, hfr, hlo, hin⟩ := C
  unfold xo_dup2 at h
  split at h
  · rename_i pc pl v w stk hh
    cases hq : xc1 v && xc1 w with
    | false => rw [hq] at h; cases h
    | true =>
      rw [hq] at h
      have h := Sum.inl.inj (Option.some.inj h)
      subst h
      simp only [Bool.and_eq_true] at hq
      intro ad H locs cells slots ls had hW hL hc hz
      exact lv_dup2_11 hx hb hd (by rw [xcv_cat hE.2.2.2.2.2.2.2]; simpa [xc1] using hq.1) (by rw [xcv_cat hE.2.2.2.2.2.2.2]; simpa [xc1] using hq.2) (kk ad H locs cells slots ls had hW hL hc hz)
  · cases h

theorem xs_if {st st' : xS} (C : xCx p R s m args meth c G xs L D cA A y) {op : Jvm.ClassFile.Cond} {off : Int} {tgt : Nat} (ht : (st.1 : Int) + off = (tgt : Int)) (hd : decode (xm y).2.1 st.1 = .ok (.ifCond op off, 3)) (h : xo_if op tgt st = some (.inl st')) (kk : xWW p l e R s m args below meth c Q G D cA A l0 z0 ad0 st') : xWW p l e R s m args below meth c Q G D cA A l0 z0 ad0 st := by
  obtain ⟨hy, hx, hb, hml, hown, hT, har, hK, hE, hA, hfr, hlo, hin⟩ := C
  unfold xo_if at h
  split at h
  · have h := Sum.inl.inj (Option.some.inj h)
    subst h
    intro ad H locs cells slots ls had hW hL hc hz
    have k := (kk ad H locs cells slots ls had hW hL hc hz)
    cases op
    · exact lv_if_eq hx hb hd ht (fun q => by simpa only [xcmp, if_pos q] using k) (fun q => by simpa only [xcmp, if_neg q] using k)
    · exact lv_if_ne hx hb hd ht (fun q => by simpa only [xcmp, if_neg q] using k) (fun q => by simpa only [xcmp, if_pos q] using k)
    · exact lv_if_lt hx hb hd ht (fun q => by simpa only [xcmp, if_pos q] using k) (fun q => by simpa only [xcmp, if_neg q] using k)
    · exact lv_if_ge hx hb hd ht (fun q => by simpa only [xcmp, if_pos q] using k) (fun q => by simpa only [xcmp, if_neg q] using k)
    · exact lv_if_gt hx hb hd ht (fun q => by simpa only [xcmp, if_pos q] using k) (fun q => by simpa only [xcmp, if_neg q] using k)
    · exact lv_if_le hx hb hd ht (fun q => by simpa only [xcmp, if_pos q] using k) (fun q => by simpa only [xcmp, if_neg q] using k)
  · cases h

theorem xs_icmp {st st' : xS} (C : xCx p R s m args meth c G xs L D cA A y) {op : Jvm.ClassFile.Cond} {off : Int} {tgt : Nat} (ht : (st.1 : Int) + off = (tgt : Int)) (hd : decode (xm y).2.1 st.1 = .ok (.if_icmp op off, 3)) (h : xo_icmp op tgt st = some (.inl st')) (kk : xWW p l e R s m args below meth c Q G D cA A l0 z0 ad0 st') : xWW p l e R s m args below meth c Q G D cA A l0 z0 ad0 st := by
  obtain ⟨hy, hx, hb, hml, hown, hT, har, hK, hE, hA, hfr, hlo, hin⟩ := C
  unfold xo_icmp at h
  split at h
  · have h := Sum.inl.inj (Option.some.inj h)
    subst h
    intro ad H locs cells slots ls had hW hL hc hz
    have k := (kk ad H locs cells slots ls had hW hL hc hz)
    cases op
    · exact lv_icmp_eq hx hb hd ht (fun q => by simpa only [xcmp, if_pos q] using k) (fun q => by simpa only [xcmp, if_neg q] using k)
    · exact lv_icmp_ne hx hb hd ht (fun q => by simpa only [xcmp, if_neg q] using k) (fun q => by simpa only [xcmp, if_pos q] using k)
    · exact lv_icmp_lt hx hb hd ht (fun q => by simpa only [xcmp, if_pos q] using k) (fun q => by simpa only [xcmp, if_neg q] using k)
    · exact lv_icmp_ge hx hb hd ht (fun q => by simpa only [xcmp, if_pos q] using k) (fun q => by simpa only [xcmp, if_neg q] using k)
    · exact lv_icmp_gt hx hb hd ht (fun q => by simpa only [xcmp, if_pos q] using k) (fun q => by simpa only [xcmp, if_neg q] using k)
    · exact lv_icmp_le hx hb hd ht (fun q => by simpa only [xcmp, if_pos q] using k) (fun q => by simpa only [xcmp, if_neg q] using k)
  · cases h

theorem xs_goto {st st' : xS} (C : xCx p R s m args meth c G xs L D cA A y) {off : Int} {tgt : Nat} (ht : (st.1 : Int) + off = (tgt : Int)) (hd : decode (xm y).2.1 st.1 = .ok (.goto off, 3)) (h : xo_goto tgt st = some (.inl st')) (kk : xWW p l e R s m args below meth c Q G D cA A l0 z0 ad0 st') : xWW p l e R s m args below meth c Q G D cA A l0 z0 ad0 st := by
  obtain ⟨hy, hx, hb, hml, hown, hT, har, hK, hE, hA, hfr, hlo, hin⟩ := C
  obtain ⟨pc, pl, stk, hh⟩ := st
  have h := Sum.inl.inj (Option.some.inj h)
  subst h
  intro ad H locs cells slots ls had hW hL hc hz
  exact lv_goto hx hb hd ht (kk ad H locs cells slots ls had hW hL hc hz)

theorem xtgt_of {pc : Nat} {off : Int} {t : Nat} (h : xtgt pc off = some t) : (pc : Int) + off = (t : Int) := by
  unfold xtgt at h
  split at h
  · rename_i u hu
    cases h
    exact hu
  · cases h
theorem xs_tab {st st' : xS} (C : xCx p R s m args meth c G xs L D cA A y) {dflt lo hi : Int} {offs : Array Int} {len : Nat} (hd : decode (xm y).2.1 st.1 = .ok (.tableswitch dflt lo hi offs, len)) (h : xo_tab dflt lo hi offs st = some (.inl st')) (kk : xWW p l e R s m args below meth c Q G D cA A l0 z0 ad0 st') : xWW p l e R s m args below meth c Q G D cA A l0 z0 ad0 st := by
  obtain ⟨hy, hx, hb, hml, hown, hT, har, hK, hE, hA, hfr, hlo, hin⟩ := C
  unfold xo_tab at h
  split at h
  · split at h
    · rename_i t ht
      have h := Sum.inl.inj (Option.some.inj h)
      subst h
      intro ad H locs cells slots ls had hW hL hc hz
      have k := (kk ad H locs cells slots ls had hW hL hc hz)
      unfold xtab at ht
      split at ht
      · rename_i ho
        exact lv_tableOut hx hb hd ho (xtgt_of ht) k
      · rename_i ho
        split at ht
        · rename_i off hoff
          exact lv_tableIn hx hb hd (fun q => ho (Or.inl q)) (fun q => ho (Or.inr q)) hoff (xtgt_of ht) k
        · cases ht
    · cases h
  · cases h

theorem xs_look {st st' : xS} (C : xCx p R s m args meth c G xs L D cA A y) {dflt : Int} {ps : Array (Int × Int)} {len : Nat} (hd : decode (xm y).2.1 st.1 = .ok (.lookupswitch dflt ps, len)) (h : xo_look dflt ps st = some (.inl st')) (kk : xWW p l e R s m args below meth c Q G D cA A l0 z0 ad0 st') : xWW p l e R s m args below meth c Q G D cA A l0 z0 ad0 st := by
  obtain ⟨hy, hx, hb, hml, hown, hT, har, hK, hE, hA, hfr, hlo, hin⟩ := C
  unfold xo_look at h
  split at h
  · split at h
    · rename_i t ht
      cases hq : (ps.toList.zip (ps.toList.drop 1)).all (fun (a, next) => a.1 < next.1) with
      | false => rw [hq] at h; cases h
      | true =>
        rw [hq] at h
        have h := Sum.inl.inj (Option.some.inj h)
        subst h
        intro ad H locs cells slots ls had hW hL hc hz
        exact lv_lookup hx hb hd hq rfl (xtgt_of ht) (kk ad H locs cells slots ls had hW hL hc hz)
    · cases h
  · cases h

end XSND
