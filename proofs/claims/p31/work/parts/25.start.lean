/-! THE LAW, from its entry: out of a run of the abstract machine -/
def R_law : String := "RollHallLaw"
def lw_P (b : Addr) (xs : List Int32) (args : Array Value) (s : State) : Prop := args = #[.ref b] ∧ s.IntsAt b xs ∧ xs.length ≤ 2560 ∧ (Jvm.Cond.and given_1 narrow_1).before args s = true
def lw_Q (_ : Array Value) (s : State) (o : Outcome) (t : State) : Prop := o = .returned (some (.int 1)) ∧ Framed s o t [] 102 2663
def lw_Z (below : List Frame) (a : Array Value) (s : State) : State → Prop := fun t => ∃ o, t.status = .running ∧ Ended t below o ∧ lw_Q a s o t
/-- the law's own end, with 1 on the stack, nothing written that was there before, its room as the claim has it -/
theorem lw_ret {p : Program} {l : Launch} {e : Env} {s : State} {m : MethodId} {below : List Frame} {meth : Method} {c : Code} {b : Nat} (hx : p.tables.exec = Jvm.exec) (hb : c.code = code) (hr : meth.sig.returnType = ret) (hlocks : meth.locks = false) {pc : Nat} {H : Heap} {ls : Array Slot} (hdg : decode code pc = .ok (.ireturn, 1)) : W p l e room_1 s m #[Value.ref b] below meth c H [] 102 2663 (lw_Z below #[Value.ref b] s) (F0 m pc ls [.int 1]) := by
  intro T hT X
  obtain ⟨fs, hret, hrun, hended, hW, hframe⟩ := X.leave (v := some (.int 1)) (hlocks := hlocks) (fun h => by rw [hr] at h; cases h)
  have hmeth' : T.vm.method? m = some meth := X.method'
  refine ⟨T.setFrames fs, ?_, .returned (some (.int 1)), hrun, hended, rfl, ⟨_, rfl⟩, hW, hframe⟩
  jvm_step X.here [X.here.top, hx, hb, hdg, hmeth', hr, ret, narrow_b1]
  (try refine ⟨rfl, ?_⟩); (try refine ⟨rfl, ?_⟩)
  first | (intro acts; rw [hret _ acts rfl rfl rfl]) | rw [hret _ _ rfl rfl rfl]
  exact Steps.refl _
/-- what holds at the law's entry: the machine, the code, the tables' words (any of lw_tbl by 'hts w (by decide +kernel)'), the script of L ints xs at the cell b, what the Statement gives of the start (any of its parts by flat_of_before) -/
def lw_At (p : Program) (s : State) (m : MethodId) (meth : Method) (c : Code) (b L : Nat) (xs : Nat → Int32) : Prop :=
  p.tables.exec = Jvm.exec ∧ c.code = code ∧ meth.sig.returnType = ret ∧ c.maxLocals = 4 ∧ s.vm.findClass R_law = some m.cls ∧ (∀ w ∈ lw_tbl, w.before #[Value.ref b] s = true) ∧ va_X b L xs s s.heap ∧ b < s.heap.size ∧ meth.locks = false ∧ (Jvm.Cond.and given_1 narrow_1).before #[Value.ref b] s = true

def xtm (i : Nat) : Term := Term.string RX5 (xSk.getD i 0)
set_option maxRecDepth 100000 in
theorem xfl_ex : ∀ i, i < 8 → Cond.exactly (xtm i) "java/lang/String" ∈ flatC (Jvm.Cond.and given_1 narrow_1) := by decide +kernel
set_option maxRecDepth 100000 in
theorem xfl_co : ∀ i, i < 8 → Cond.eq (.field (xtm i) "java/lang/String" "coder" "B") (.int 0) ∈ flatC (Jvm.Cond.and given_1 narrow_1) := by decide +kernel
set_option maxRecDepth 100000 in
theorem xfl_ar : ∀ i, i < 8 → Cond.arrayOf (.field (xtm i) "java/lang/String" "value" "[B") .byte ∈ flatC (Jvm.Cond.and given_1 narrow_1) := by decide +kernel
set_option maxRecDepth 100000 in
theorem xfl_le : ∀ i, i < 8 → Cond.eq (.length (.field (xtm i) "java/lang/String" "value" "[B")) (.int (Int32.ofNat (xSl.getD i 0))) ∈ flatC (Jvm.Cond.and given_1 narrow_1) := by decide +kernel
set_option maxRecDepth 100000 in
theorem xfl_el : ∀ i, i < 8 → ∀ j, j < xSl.getD i 0 → Cond.eq (.elem (.field (xtm i) "java/lang/String" "value" "[B") (.int (Int32.ofNat j))) (.int ((xSb.getD i []).getD j 0)) ∈ flatC (Jvm.Cond.and given_1 narrow_1) := by decide +kernel
set_option maxRecDepth 100000 in
theorem xfl_ne : ∀ i, i < 8 → ∀ j, j < 8 → i ≠ j → Cond.not (Cond.eq (xtm i) (xtm j)) ∈ flatC (Jvm.Cond.and given_1 narrow_1) ∨ Cond.not (Cond.eq (xtm j) (xtm i)) ∈ flatC (Jvm.Cond.and given_1 narrow_1) := by decide +kernel
set_option maxRecDepth 100000 in
theorem xfl_st : Cond.eq (.static "java/lang/String" "COMPACT_STRINGS" "Z") (.int 1) ∈ flatC (Jvm.Cond.and given_1 narrow_1) ∧ Cond.isRef (.static "jdk/internal/util/Preconditions" "SIOOBE_FORMATTER" "Ljava/util/function/BiFunction;") ∈ flatC (Jvm.Cond.and given_1 narrow_1) := by decide +kernel
theorem xfl_sr : ∀ i, i < 8 → Cond.stringRef RX5 (xSk.getD i 0) (xSt.getD i "") ∈ lw_tbl := by
  intro i hi
  have h : ∀ i, i < 8 → lw_tbl[([567, 635, 645, 646, 651, 663, 656, 657] : List Nat).getD i 0]? = some (Cond.stringRef RX5 (xSk.getD i 0) (xSt.getD i "")) := by decide +kernel
  exact List.mem_of_getElem? (h i hi)
theorem xac {args : Array Value} {s : State} {ty : FieldType} (hty : ty = .int ∨ ty = .byte ∨ ty = .boolean ∨ ty = .char) (h : (Cond.arrayClass ty).before args s = true) : ∃ cA : ClassId, ArrOfT s cA ty ∧ va_RA s cA ty := by
  obtain ⟨cA, kA, comp, h1, h2, h3⟩ := Cond.arrayClass_spec h
  refine ⟨cA, fun n z => ⟨fun k h => (by cases h), kA, h2, comp, h3⟩, ?_⟩
  rcases hty with rfl | rfl | rfl | rfl <;> exact h1
set_option maxHeartbeats 4000000 in
theorem x_start {p : Program} {e : Env} {s : State} {m : MethodId} {below : List Frame} {meth : Method} {c : Code} (l : Launch) {b L : Nat} {xs : Nat → Int32} (C0 : lw_At p s m meth c b L xs) {n : Nat} {r : xZ} (hrun : xrun xs L n 231 (0, xent 231 [.ref 999], [], 0, [], fun _ _ => 0) = some r) (h1 : r.1 = some (.int 1)) (hcc : r.2.1 ≤ 102) (hss : xsl r.2.2.1 ≤ 2663) :
    W p l e room_1 s m #[Value.ref b] below meth c s.heap [] 0 0 (lw_Z below #[Value.ref b] s) (entryFrame m ([Value.ref b] : List Value).toArray 4) := by
  obtain ⟨hx, hb, hr, hml, hown, hts, hX, hbl, hlocks, hgv⟩ := C0
  have hfl := flat_of_before _ hgv
  have hnA : ∀ a : Nat, a < s.heap.size → ¬ (fun q : Nat => s.heap.size ≤ q) a := fun a h => Nat.not_le.mpr h
  have hT : xT s := fun w hw hg a => va_tabs (xgw_on hg) rfl (hts w hw)
  have har : ∀ ty ∈ xtl, (Cond.arrayClass ty).before #[Value.ref b] s = true := by
    intro ty hty
    have : ty = .int ∨ ty = .byte ∨ ty = .boolean ∨ ty = .char := by simpa [xtl] using hty
    rcases this with rfl | rfl | rfl | rfl
    · exact hts _ (List.mem_of_getElem? (i := 106) (by decide +kernel))
    · exact hts _ (List.mem_of_getElem? (i := 680) (by decide +kernel))
    · exact hts _ (List.mem_of_getElem? (i := 1243) (by decide +kernel))
    · exact hts _ (List.mem_of_getElem? (i := 1244) (by decide +kernel))
  obtain ⟨c1, g1⟩ := xac (Or.inl rfl) (har .int (by decide))
  obtain ⟨c2, g2⟩ := xac (Or.inr (Or.inl rfl)) (har .byte (by decide))
  obtain ⟨c3, g3⟩ := xac (Or.inr (Or.inr (Or.inl rfl))) (har .boolean (by decide))
  obtain ⟨c4, g4⟩ := xac (Or.inr (Or.inr (Or.inr rfl))) (har .char (by decide))
  obtain ⟨cA, rfl, rfl, rfl, rfl⟩ : ∃ cA : FieldType → ClassId, cA .int = c1 ∧ cA .byte = c2 ∧ cA .boolean = c3 ∧ cA .char = c4 := ⟨fun t => match t with
    | .int => c1
    | .byte => c2
    | .boolean => c3
    | _ => c4, rfl, rfl, rfl, rfl⟩
  have hkn : ∀ k : Nat, ∃ cd : ClassId × (Nat → Nat), ∀ q : vw_C, vwCl[k]? = some q → u_Kn s q.1 q.2.1 q.2.2 cd.1 cd.2 := by
    intro k
    cases hk : vwCl[k]? with
    | none => exact ⟨(0, fun _ => 0), fun q h => by cases h⟩
    | some q =>
      obtain ⟨C, T, N⟩ := q
      obtain ⟨q1, -, -, -, q5, -⟩ := xcls_all k C T N hk
      obtain ⟨cC, iS, hq⟩ := u_known (C := C) (T := T) (N := N) (n := N) hts q1 (hts _ (List.mem_of_getElem? q5))
      exact ⟨(cC, iS), fun q h => by cases h; exact hq⟩
  obtain ⟨cd, hcd⟩ := Classical.axiomOfChoice hkn
  have hK : va_K (fun k => (cd k).1, fun k => (cd k).2) vwCl (xty cA) s := by
    refine ⟨fun k q h => hcd k q h, fun k q h => ?_⟩
    have hk : k < 4 := (List.getElem?_eq_some_iff.mp h).1
    match k, hk, h with
    | 0, _, h => cases h; exact g1
    | 1, _, h => cases h; exact g2
    | 2, _, h => cases h; exact g3
    | 3, _, h => cases h; exact g4
  obtain ⟨adK, adV, hS, hev⟩ := vk_Sof (args := #[Value.ref b]) (s := s) (N := 8) (tm := xtm) (len := xSl) (byt := xSb) (A := fun q : Nat => s.heap.size ≤ q) (by decide) (fun i hi => hfl _ (xfl_ex i hi)) (fun i hi => hfl _ (xfl_co i hi)) (fun i hi => hfl _ (xfl_ar i hi)) (fun i hi => hfl _ (xfl_le i hi)) (fun i hi j hj => hfl _ (xfl_el i hi j hj)) (fun i j hi hj hij => (xfl_ne i hi j hj hij).imp (fun q => hfl _ q) (fun q => hfl _ q)) hnA
  have hZ1 : va_Z "java/lang/String" "COMPACT_STRINGS" "Z" (.int 1) (fun q : Nat => s.heap.size ≤ q) s s.heap := va_Zof (hts _ (List.mem_of_getElem? (i := 585) (by decide +kernel))) (hts _ (List.mem_of_getElem? (i := 67) (by decide +kernel))) (va_eqt (hfl _ xfl_st.1)) hnA
  have hZq := va_Zqof (A := fun q : Nat => s.heap.size ≤ q) (hts (.laysStatic "jdk/internal/util/Preconditions" "SIOOBE_FORMATTER" "Ljava/util/function/BiFunction;") (List.mem_of_getElem? (i := 601) (by decide +kernel))) (hts (.initialized "jdk/internal/util/Preconditions") (List.mem_of_getElem? (i := 69) (by decide +kernel))) (hfl _ xfl_st.2) hnA
  obtain ⟨fm, hZ2, hfm⟩ : ∃ fm : Value, va_Z "jdk/internal/util/Preconditions" "SIOOBE_FORMATTER" "Ljava/util/function/BiFunction;" fm (fun q : Nat => s.heap.size ≤ q) s s.heap ∧ fm.category = 1 := by
    rcases hZq with h | ⟨t, h⟩
    · exact ⟨_, h, rfl⟩
    · exact ⟨_, h, rfl⟩
  have hE : xEx (b, adK, adV, fm) xs L (fun q : Nat => s.heap.size ≤ q) s s.heap := ⟨hS, fun j hj => vk_R.of (hts _ (xfl_sr j hj)) (hev j hj), hZ1, hZ2, hX, hnA b hbl, hbl, hfm⟩
  have hbx : c.code = (xm 231).2.1 := hb
  have C : xCx p room_1 s m #[Value.ref b] meth c (b, adK, adV, fm) xs L (fun k => (cd k).1, fun k => (cd k).2) cA (fun q : Nat => s.heap.size ≤ q) 231 := by
    exact ⟨by decide, hx, hbx, hml, hown, hT, har, hK, hE, fun _ h => h, by decide, by decide, fun h => absurd h (by decide)⟩
  have hl := lv_entry ([.ref b]) (n := 4) (Nat.le_of_ble_eq_true rfl)
  rw [lg_entry_eq]
  generalize (lg_sl ([.ref b]) ++ List.replicate (4 - (lg_sl ([.ref b])).length) Slot.unset).toArray = ls at hl ⊢
  refine x_body (fun y pc e h => (xOK y pc e h).2) xCalAll n 231 _ r hrun p l e room_1 s m #[Value.ref b] below meth c (lw_Z below #[Value.ref b] s) (b, adK, adV, fm) _ cA _ 0 0 (fun _ => 0) C (by show r.2.1 ≤ 0 + 102; omega) (by show xsl r.2.2.1 ≤ 0 + 2663; omega) ?_ (fun _ => 0) s.heap [] 0 0 ls (fun _ _ => rfl) ⟨rfl, by decide, fun k q h => by simp [xw] at h, ⟨fun i j p q h => by simp [xw] at h, fun k q h => by simp [xw] at h⟩, va_S.rf⟩ ?_ rfl rfl
  · intro ad' H locs cells slots ls' pc had hW hc hz
    refine ⟨fun v hv hd hty => ?_, fun hv hd hty => ?_⟩
    · rw [h1] at hv
      cases hv
      refine va_forget (fun q hq => hW.2.2.2.2.2.2 q hq) (W.widen (k := 102) (n := 2663) (by omega) (by omega) ?_)
      exact lw_ret hx hb hr hlocks hd
    · rw [h1] at hv
      cases hv
  · have : c.maxLocals = (xm 231).2.2.1 := hml
    rw [this]
    exact xent_ls (z := 231) (as := [.ref 999]) hfm (by decide) hl
