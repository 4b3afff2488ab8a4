/-! SOUNDNESS, 6: a step that goes on; a call; a return -/
section XNX
variable {p : Program} {l : Launch} {e : Env} {R : Room} {s : State} {m : MethodId} {args : Array Value} {below : List Frame} {meth : Method} {c : Code} {Q : State → Prop} {G : xG} {D : va_G} {cA : FieldType → ClassId} {A : Nat → Prop} {l0 z0 : Nat} {ad0 : Nat → Nat} {xs : Nat → Int32} {L y : Nat}
theorem xo_call_no {inst : Bool} {ci z n : Nat} {st st' : xS} (h : xo_call inst ci z n st = some (.inl st')) : False := by
  unfold xo_call at h
  simp only [Bool.cond_eq_ite] at h
  repeat' split at h
  all_goals cases h
theorem xo_init_no {z n : Nat} {st st' : xS} (h : xo_init z n st = some (.inl st')) : False := by
  unfold xo_init at h
  simp only [Bool.cond_eq_ite] at h
  repeat' split at h
  all_goals cases h
theorem xo_iret_no {r : Option FieldType} {st st' : xS} (h : xo_iret r st = some (.inl st')) : False := by
  unfold xo_iret at h
  simp only [Bool.cond_eq_ite] at h
  repeat' split at h
  all_goals cases h
theorem xo_vret_no {r : Option FieldType} {st st' : xS} (h : xo_vret r st = some (.inl st')) : False := by
  unfold xo_vret at h
  repeat' split at h
  all_goals cases h
theorem xfchk_of {own : String} {idx a b w : Nat} {ok : String → String → String → Bool → Bool} (h : xfchk own idx a b w ok = true) : ∃ (C : String) (T : u_T) (N : Nat), vwCl[a]? = some (C, T, N) ∧ b < N ∧ lw_tbl[w]? = some (.fieldLink own idx (T b).1 (T b).2.1 (T b).2.2.1) ∧ ok (T b).1 (T b).2.1 (T b).2.2.1 (T b).2.2.2 = true := by
  unfold xfchk at h
  split at h
  · rename_i C T N hv
    simp only [Bool.and_eq_true, Nat.ble_eq, decide_eq_true_eq] at h
    exact ⟨C, T, N, hv, h.1.1, h.1.2, h.2⟩
  · cases h
theorem xble_f {a b : Nat} (h : b < a) : Nat.ble a b = false := by
  cases hq : Nat.ble a b with
  | false => rfl
  | true => have := Nat.le_of_ble_eq_true hq; omega
theorem xfin_of {f : Bool} {P Q : Prop} {_ : Decidable P} {_ : Decidable Q} (h : (!f || (decide P && decide Q)) = true) : f = false ∨ (P ∧ Q) := by
  simp only [Bool.or_eq_true, Bool.not_eq_true', Bool.and_eq_true, decide_eq_true_eq] at h
  exact h
set_option maxHeartbeats 4000000 in
theorem x_next {st st' : xS} (C : xCx p R s m args meth c G xs L D cA A y) (hOK : ∀ pc e, xI y pc = some e → xgood y pc e = true) (h : xstep xs L y st = some (.inl st')) (hl : st'.2.2.2.1 ≤ l0 + R.cells) (hsl : xsl st'.2.2.2.2.1 ≤ z0 + R.slots) (kk : xWW p l e R s m args below meth c Q G D cA A l0 z0 ad0 st') : xWW p l e R s m args below meth c Q G D cA A l0 z0 ad0 st := by
  unfold xstep at h
  cases he : xI y st.1 with
  | none => rw [he] at h; cases h
  | some en =>
    rw [he] at h
    have hg := hOK st.1 en he
    obtain ⟨i, len, a, b, w⟩ := en
    have hg : (xchk y st.1 (i, len, a, b, w) && decide (decode (xm y).2.1 st.1 = .ok (i, len))) = true := hg
    rw [Bool.and_eq_true] at hg
    obtain ⟨hc, hd⟩ := hg
    have hd := of_decide_eq_true hd
    have h : xex xs L y (i, len, a, b, w) st = some (.inl st') := h
    cases i with
    | iadd  =>
      have e1 : len = 1 := Nat.eq_of_beq_eq_true hc
      subst e1
      exact xs_iadd C hd h kk
    | isub  =>
      have e1 : len = 1 := Nat.eq_of_beq_eq_true hc
      subst e1
      exact xs_isub C hd h kk
    | imul  =>
      have e1 : len = 1 := Nat.eq_of_beq_eq_true hc
      subst e1
      exact xs_imul C hd h kk
    | iand  =>
      have e1 : len = 1 := Nat.eq_of_beq_eq_true hc
      subst e1
      exact xs_iand C hd h kk
    | ior  =>
      have e1 : len = 1 := Nat.eq_of_beq_eq_true hc
      subst e1
      exact xs_ior C hd h kk
    | ixor  =>
      have e1 : len = 1 := Nat.eq_of_beq_eq_true hc
      subst e1
      exact xs_ixor C hd h kk
    | ishl  =>
      have e1 : len = 1 := Nat.eq_of_beq_eq_true hc
      subst e1
      exact xs_ishl C hd h kk
    | ishr  =>
      have e1 : len = 1 := Nat.eq_of_beq_eq_true hc
      subst e1
      exact xs_ishr C hd h kk
    | iushr  =>
      have e1 : len = 1 := Nat.eq_of_beq_eq_true hc
      subst e1
      exact xs_iushr C hd h kk
    | land  =>
      have e1 : len = 1 := Nat.eq_of_beq_eq_true hc
      subst e1
      exact xs_land C hd h kk
    | lor  =>
      have e1 : len = 1 := Nat.eq_of_beq_eq_true hc
      subst e1
      exact xs_lor C hd h kk
    | lshl  =>
      have e1 : len = 1 := Nat.eq_of_beq_eq_true hc
      subst e1
      exact xs_lshl C hd h kk
    | lshr  =>
      have e1 : len = 1 := Nat.eq_of_beq_eq_true hc
      subst e1
      exact xs_lshr C hd h kk
    | lushr  =>
      have e1 : len = 1 := Nat.eq_of_beq_eq_true hc
      subst e1
      exact xs_lushr C hd h kk
    | i2b  =>
      have e1 : len = 1 := Nat.eq_of_beq_eq_true hc
      subst e1
      exact xs_i2b C hd h kk
    | i2c  =>
      have e1 : len = 1 := Nat.eq_of_beq_eq_true hc
      subst e1
      exact xs_i2c C hd h kk
    | i2l  =>
      have e1 : len = 1 := Nat.eq_of_beq_eq_true hc
      subst e1
      exact xs_i2l C hd h kk
    | l2i  =>
      have e1 : len = 1 := Nat.eq_of_beq_eq_true hc
      subst e1
      exact xs_l2i C hd h kk
    | lcmp  =>
      have e1 : len = 1 := Nat.eq_of_beq_eq_true hc
      subst e1
      exact xs_lcmp C hd h kk
    | idiv  =>
      have e1 : len = 1 := Nat.eq_of_beq_eq_true hc
      subst e1
      exact xs_idiv C hd h kk
    | irem  =>
      have e1 : len = 1 := Nat.eq_of_beq_eq_true hc
      subst e1
      exact xs_irem C hd h kk
    | pop  =>
      have e1 : len = 1 := Nat.eq_of_beq_eq_true hc
      subst e1
      exact xs_pop C hd h kk
    | dup  =>
      have e1 : len = 1 := Nat.eq_of_beq_eq_true hc
      subst e1
      exact xs_dup C hd h kk
    | dup_x1  =>
      have e1 : len = 1 := Nat.eq_of_beq_eq_true hc
      subst e1
      exact xs_dup_x1 C hd h kk
    | dup_x2  =>
      have e1 : len = 1 := Nat.eq_of_beq_eq_true hc
      subst e1
      exact xs_dup_x2 C hd h kk
    | dup2  =>
      have e1 : len = 1 := Nat.eq_of_beq_eq_true hc
      subst e1
      exact xs_dup2 C hd h kk
    | iconst n =>
      have e1 : len = 1 := Nat.eq_of_beq_eq_true hc
      subst e1
      exact xs_iconst C hd h kk
    | lconst n =>
      have e1 : len = 1 := Nat.eq_of_beq_eq_true hc
      subst e1
      exact xs_lconst C hd h kk
    | iload_n k =>
      have e1 : len = 1 := Nat.eq_of_beq_eq_true hc
      subst e1
      exact xs_iload_n C hd h kk
    | iload k =>
      have e1 : len = 2 := Nat.eq_of_beq_eq_true hc
      subst e1
      exact xs_iload C hd h kk
    | lload_n k =>
      have e1 : len = 1 := Nat.eq_of_beq_eq_true hc
      subst e1
      exact xs_lload_n C hd h kk
    | lload k =>
      have e1 : len = 2 := Nat.eq_of_beq_eq_true hc
      subst e1
      exact xs_lload C hd h kk
    | aload_n k =>
      have e1 : len = 1 := Nat.eq_of_beq_eq_true hc
      subst e1
      exact xs_aload_n C hd h kk
    | aload k =>
      have e1 : len = 2 := Nat.eq_of_beq_eq_true hc
      subst e1
      exact xs_aload C hd h kk
    | istore_n k =>
      have e1 : len = 1 := Nat.eq_of_beq_eq_true hc
      subst e1
      exact xs_istore_n C hd h kk
    | istore k =>
      have e1 : len = 2 := Nat.eq_of_beq_eq_true hc
      subst e1
      exact xs_istore C hd h kk
    | astore_n k =>
      have e1 : len = 1 := Nat.eq_of_beq_eq_true hc
      subst e1
      exact xs_astore_n C hd h kk
    | astore k =>
      have e1 : len = 2 := Nat.eq_of_beq_eq_true hc
      subst e1
      exact xs_astore C hd h kk
    | bipush n =>
      have e1 : len = 2 := Nat.eq_of_beq_eq_true hc
      subst e1
      exact xs_bipush C hd h kk
    | sipush n =>
      have e1 : len = 3 := Nat.eq_of_beq_eq_true hc
      subst e1
      exact xs_sipush C hd h kk
    | iaload  =>
      have e1 : len = 1 := Nat.eq_of_beq_eq_true hc
      subst e1
      exact xs_iald C hd h kk
    | baload  =>
      have e1 : len = 1 := Nat.eq_of_beq_eq_true hc
      subst e1
      exact xs_bald C hd h kk
    | caload  =>
      have e1 : len = 1 := Nat.eq_of_beq_eq_true hc
      subst e1
      exact xs_cald C hd h kk
    | iastore  =>
      have e1 : len = 1 := Nat.eq_of_beq_eq_true hc
      subst e1
      exact xs_iast C hd h kk
    | bastore  =>
      have e1 : len = 1 := Nat.eq_of_beq_eq_true hc
      subst e1
      exact xs_bast C hd h kk
    | castore  =>
      have e1 : len = 1 := Nat.eq_of_beq_eq_true hc
      subst e1
      exact xs_cast C hd h kk
    | arraylength  =>
      have e1 : len = 1 := Nat.eq_of_beq_eq_true hc
      subst e1
      exact xs_alen C hd h kk
    | ldc idx =>
      have hcc : (Nat.beq len 2 && (Nat.ble 8 a || (decide (xow y = RX5) && decide (xSk.getD a 0 = idx)))) = true := hc
      have h2 : (bif Nat.ble (a + 1) 8 then xo_const (.ref (1000 + a)) len else fun _ => none) st = some (.inl st') := h
      rw [Bool.and_eq_true, Bool.or_eq_true, Bool.and_eq_true] at hcc
      obtain ⟨e1, hcc⟩ := hcc
      have e1 : len = 2 := Nat.eq_of_beq_eq_true e1
      subst e1
      cases hq : Nat.ble (a + 1) 8 with
      | false => rw [hq] at h2; cases h2
      | true =>
        rw [hq] at h2
        have ha := Nat.le_of_ble_eq_true hq
        rcases hcc with hcc | hcc
        · have := Nat.le_of_ble_eq_true hcc
          omega
        · exact xs_ldc C (by omega) (of_decide_eq_true hcc.1) (of_decide_eq_true hcc.2) hd h2 kk
    | ldc2_w idx =>
      have hc : (Nat.beq len 3 && decide (lw_tbl[w]? = some (.constantLong (xow y) idx (Int64.ofNat a)))) = true := hc
      simp only [Bool.and_eq_true, decide_eq_true_eq] at hc
      have e1 : len = 3 := Nat.eq_of_beq_eq_true hc.1
      subst e1
      exact xs_ldc2 C hc.2 hd h kk
    | iinc i n =>
      have h : xo_iinc i n len st = some (.inl st') := h
      have e1 : len = 3 := by
        have h2 := h
        unfold xo_iinc at h2
        simp only [Bool.cond_eq_ite] at h2
        repeat' split at h2
        all_goals first | (cases h2; done) | skip
        rename_i hq
        simp only [Bool.and_eq_true] at hq
        exact Nat.eq_of_beq_eq_true hq.2
      exact xs_iinc C e1 hd h kk
    | ifCond op off =>
      have hc : (Nat.beq len 3 && decide ((st.1 : Int) + off = (a : Int))) = true := hc
      simp only [Bool.and_eq_true, decide_eq_true_eq] at hc
      have e1 : len = 3 := Nat.eq_of_beq_eq_true hc.1
      subst e1
      exact xs_if C hc.2 hd h kk
    | if_icmp op off =>
      have hc : (Nat.beq len 3 && decide ((st.1 : Int) + off = (a : Int))) = true := hc
      simp only [Bool.and_eq_true, decide_eq_true_eq] at hc
      have e1 : len = 3 := Nat.eq_of_beq_eq_true hc.1
      subst e1
      exact xs_icmp C hc.2 hd h kk
    | goto off =>
      have hc : (Nat.beq len 3 && decide ((st.1 : Int) + off = (a : Int))) = true := hc
      simp only [Bool.and_eq_true, decide_eq_true_eq] at hc
      have e1 : len = 3 := Nat.eq_of_beq_eq_true hc.1
      subst e1
      exact xs_goto C hc.2 hd h kk
    | tableswitch d lo hi offs => exact xs_tab C hd h kk
    | lookupswitch d ps => exact xs_look C hd h kk
    | newarray t =>
      have hc : (Nat.beq len 2 && decide (lw_tbl[w]? = some (.arrayClass (newarray.typeOf t))) && (decide (newarray.typeOf t = .int) || decide (newarray.typeOf t = .byte) || decide (newarray.typeOf t = .boolean) || decide (newarray.typeOf t = .char))) = true := hc
      simp only [Bool.and_eq_true, Bool.or_eq_true, decide_eq_true_eq] at hc
      have e1 : len = 2 := Nat.eq_of_beq_eq_true hc.1.1
      subst e1
      exact xs_newa (w := w) C (by rcases hc.2 with ((q | q) | q) | q <;> simp [q]) hd h hl hsl kk
    | getstatic idx =>
      have hc : (Nat.beq len 3 && (bif Nat.beq a 0 then decide (lw_tbl[w]? = some (.fieldLink (xow y) idx "java/lang/String" "COMPACT_STRINGS" "Z")) else bif Nat.beq a 1 then decide (lw_tbl[w]? = some (.fieldLink (xow y) idx "jdk/internal/util/Preconditions" "SIOOBE_FORMATTER" "Ljava/util/function/BiFunction;")) else true)) = true := hc
      rw [Bool.and_eq_true] at hc
      have e1 : len = 3 := Nat.eq_of_beq_eq_true hc.1
      subst e1
      exact xs_gets (w := w) C (fun q => by subst q; exact of_decide_eq_true hc.2) (fun q => by subst q; exact of_decide_eq_true hc.2) hd h kk
    | getfield idx =>
      have hc : (Nat.beq len 3 && (bif Nat.beq a 100 then (bif Nat.beq b 0 then decide (lw_tbl[w]? = some (.fieldLink (xow y) idx "java/lang/String" "value" "[B")) else decide (lw_tbl[w]? = some (.fieldLink (xow y) idx "java/lang/String" "coder" "B"))) else xfchk (xow y) idx a b w (fun _ _ _ _ => true))) = true := hc
      rw [Bool.and_eq_true] at hc
      have e1 : len = 3 := Nat.eq_of_beq_eq_true hc.1
      subst e1
      have hc := hc.2
      refine xs_getf (w := w) C (fun q => ⟨fun q2 => ?_, fun q2 => ?_⟩) (fun q => ?_) hd h kk
      · subst q; subst q2; exact of_decide_eq_true hc
      · subst q
        have : Nat.beq b 0 = false := by
          cases hb : Nat.beq b 0 with
          | true => exact absurd (Nat.eq_of_beq_eq_true hb) q2
          | false => rfl
        rw [this] at hc
        exact of_decide_eq_true hc
      · have : Nat.beq a 100 = false := by
          cases hb : Nat.beq a 100 with
          | true => exact absurd (Nat.eq_of_beq_eq_true hb) q
          | false => rfl
        rw [this] at hc
        simp only [cond_false] at hc
        obtain ⟨C', T', N', g1, g2, g3, -⟩ := xfchk_of hc
        exact ⟨C', T', N', g1, g2, g3⟩
    | putfield idx =>
      have hc : (Nat.beq len 3 && (bif Nat.ble 100 a then xfchk (xow y) idx (a - 100) b w (fun o _ d f => xrefd d && (!f || (decide ((xm y).1.name = "<init>") && decide (o = xow y)))) else bif Nat.ble 50 a then xfchk (xow y) idx (a - 50) b w (fun o _ d f => decide (d = "Z") && (!f || (decide ((xm y).1.name = "<init>") && decide (o = xow y)))) else xfchk (xow y) idx a b w (fun o _ d f => decide (d = "I") && (!f || (decide ((xm y).1.name = "<init>") && decide (o = xow y)))))) = true := hc
      rw [Bool.and_eq_true] at hc
      have e1 : len = 3 := Nat.eq_of_beq_eq_true hc.1
      subst e1
      have hc := hc.2
      refine xs_putf (w := w) C (fun q => ?_) (fun q q2 => ?_) (fun q => ?_) hd h kk
      · rw [xble_f (by omega), xble_f (by omega)] at hc
        simp only [cond_false, cond_true] at hc
        obtain ⟨C', T', N', g1, g2, g3, g4⟩ := xfchk_of hc
        simp only [Bool.and_eq_true, decide_eq_true_eq] at g4
        exact ⟨C', T', N', g1, g2, g3, g4.1, xfin_of g4.2⟩
      · rw [xble_f (by omega), Nat.ble_eq_true_of_le q] at hc
        simp only [cond_false, cond_true] at hc
        obtain ⟨C', T', N', g1, g2, g3, g4⟩ := xfchk_of hc
        simp only [Bool.and_eq_true, decide_eq_true_eq] at g4
        exact ⟨C', T', N', g1, g2, g3, g4.1, xfin_of g4.2⟩
      · rw [Nat.ble_eq_true_of_le q] at hc
        simp only [cond_false, cond_true] at hc
        obtain ⟨C', T', N', g1, g2, g3, g4⟩ := xfchk_of hc
        rw [Bool.and_eq_true] at g4
        exact ⟨C', T', N', g1, g2, g3, g4.1, xfin_of g4.2⟩
    | new idx =>
      have h2 : (bif Nat.ble (a + 1) 12 then xo_new (xini.getD a []) a else fun _ => none) st = some (.inl st') := h
      cases hq : Nat.ble (a + 1) 12 with
      | false => rw [hq] at h2; cases h2
      | true =>
        rw [hq] at h2
        have ha := Nat.le_of_ble_eq_true hq
        have hcc : (Nat.beq len 3 && (Nat.ble 12 a || match vwCl[a]? with
          | some (C, _, N) => decide (lw_tbl[w]? = some (.classLink (xow y) idx C)) && Nat.beq (xini.getD a []).length N
          | none => false)) = true := hc
        rw [Bool.and_eq_true, xble_f (show a < 12 by omega), Bool.false_or] at hcc
        have e1 : len = 3 := Nat.eq_of_beq_eq_true hcc.1
        subst e1
        have hc3 := hcc.2
        refine xs_new (w := w) C (by omega) ?_ hd h2 hl hsl kk
        split at hc3
        · rename_i C' T' N' hv
          rw [Bool.and_eq_true] at hc3
          exact ⟨C', T', N', hv, of_decide_eq_true hc3.1⟩
        · cases hc3
    | invokevirtual idx =>
      have h : (bif Nat.ble (a + 1) xN then xo_call true (xci a) a b else fun _ => none) st = some (.inl st') := h
      cases hq : Nat.ble (a + 1) xN with
      | false => rw [hq] at h; cases h
      | true => rw [hq] at h; exact (xo_call_no h).elim
    | invokestatic idx =>
      have h : (bif Nat.ble (a + 1) xN then xo_call false 0 a b else bif Nat.beq a 901 then xo_copy else fun _ => none) st = some (.inl st') := h
      cases hq : Nat.ble (a + 1) xN with
      | true => rw [hq] at h; exact (xo_call_no h).elim
      | false =>
        rw [hq] at h
        simp only [cond_false] at h
        cases hq2 : Nat.beq a 901 with
        | false => rw [hq2] at h; cases h
        | true =>
          rw [hq2] at h
          have ea : a = 901 := Nat.eq_of_beq_eq_true hq2
          subst ea
          have hc : (Nat.beq len 3 && (decide (lw_tbl[w]? = some (.methodLink (xow y) idx arraycopyName)) && Nat.ble 1 (xfr y) && Nat.ble 26 (xlo y))) = true := hc
          simp only [Bool.and_eq_true, decide_eq_true_eq, Nat.ble_eq] at hc
          have e1 : len = 3 := Nat.eq_of_beq_eq_true hc.1
          subst e1
          exact xs_copy C hc.2.1.1 hc.2.1.2 hc.2.2 hd h kk
    | invokespecial idx =>
      have h : (bif Nat.beq a 900 then xo_obj else bif Nat.ble (a + 1) xN then xo_init a b else fun _ => none) st = some (.inl st') := h
      cases hq2 : Nat.beq a 900 with
      | true =>
        rw [hq2] at h
        have ea : a = 900 := Nat.eq_of_beq_eq_true hq2
        subst ea
        have hc : (Nat.beq len 3 && (decide (lw_tbl[w]? = some (.methodLink (xow y) idx objectInit)) && Nat.ble 1 (xfr y) && Nat.ble 20 (xlo y))) = true := hc
        simp only [Bool.and_eq_true, decide_eq_true_eq, Nat.ble_eq] at hc
        have e1 : len = 3 := Nat.eq_of_beq_eq_true hc.1
        subst e1
        exact xs_obj C hc.2.1.1 hc.2.1.2 hc.2.2 hd h kk
      | false =>
        rw [hq2] at h
        simp only [cond_false] at h
        cases hq : Nat.ble (a + 1) xN with
        | false => rw [hq] at h; cases h
        | true => rw [hq] at h; exact (xo_init_no h).elim
    | ireturn => exact (xo_iret_no (show xo_iret _ st = _ from h)).elim
    | return_ => exact (xo_vret_no (show xo_vret _ st = _ from h)).elim
    | _ => cases (show (none : xR) = some (.inl st') from h)
end XNX
