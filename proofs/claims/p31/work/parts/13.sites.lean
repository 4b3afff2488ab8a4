/-! SOUNDNESS, 8: what a step that is a call, or a return, stands on -/
theorem xK1_no {st : xS} {r : xR} {q : (Nat × List Value × xS) ⊕ Option Value} (hk : xK1 st r) (h : r = some (.inr q)) : False := by
  rw [h] at hk
  exact hk
/-- where a call stands -/
def xSite (y : Nat) (st : xS) (z : Nat) (w idx : Nat) (As rest : List Value) : Prop := z + 1 < xN ∧ xlink y idx z w = true ∧ xroom y z = true ∧ xna z = As.length ∧ xcat rest = true
def xInr (y : Nat) (st : xS) (q : (Nat × List Value × xS) ⊕ Option Value) : Prop :=
  (∃ (idx z w : Nat) (As rest : List Value) (p : Nat), decode (xm y).2.1 st.1 = .ok (.invokevirtual idx, 3) ∧ xSite y st z w idx As rest ∧ xkd z = 1 ∧ q = .inl (z, .ref p :: As, (st.1 + 3, st.2.1, rest, st.2.2.2)) ∧ st.2.2.1 = As.reverse ++ .ref p :: rest ∧ ((xci z = 100 ∧ 1000 ≤ p ∧ p < 1008) ∨ (xci z ≠ 100 ∧ ∃ fs, st.2.2.2.2.1[p]? = some (.inr (xci z, fs))))) ∨
  (∃ (idx z w : Nat) (As rest : List Value), decode (xm y).2.1 st.1 = .ok (.invokestatic idx, 3) ∧ xSite y st z w idx As rest ∧ xkd z = 0 ∧ q = .inl (z, As, (st.1 + 3, st.2.1, rest, st.2.2.2)) ∧ st.2.2.1 = As.reverse ++ rest) ∨
  (∃ (idx z w : Nat) (As rest : List Value) (p : Nat), decode (xm y).2.1 st.1 = .ok (.invokespecial idx, 3) ∧ xSite y st z w idx As rest ∧ xkd z = 2 ∧ p < 999 ∧ q = .inl (z, .ref p :: As, (st.1 + 3, st.2.1, rest, st.2.2.2)) ∧ st.2.2.1 = As.reverse ++ .ref p :: rest) ∨
  (∃ v : Int32, q = .inr (some (.int v)) ∧ st.2.2.1 = [.int v] ∧ decode (xm y).2.1 st.1 = .ok (.ireturn, 1) ∧ ∃ ty, (xm y).2.2.2.1 = some ty ∧ narrow ty (.int v) = .int v) ∨
  (q = .inr none ∧ st.2.2.1 = [] ∧ decode (xm y).2.1 st.1 = .ok (.return_, 1) ∧ (xm y).2.2.2.1 = none)
set_option maxHeartbeats 4000000 in
theorem x_inr {xs : Nat → Int32} {L y : Nat} {st : xS} {q : (Nat × List Value × xS) ⊕ Option Value} (hOK : ∀ pc e, xI y pc = some e → xgood y pc e = true) (h : xstep xs L y st = some (.inr q)) : xInr y st q := by
  unfold xstep at h
  cases he : xI y st.1 with
  | none => rw [he] at h; cases h
  | some en =>
    rw [he] at h
    have hg := hOK st.1 en he
    obtain ⟨i, len, a, b, w⟩ := en
    have hg : (xchk y st.1 (i, len, a, b, w) && decide (decode (xm y).2.1 st.1 = .ok (i, len))) = true := hg
    rw [Bool.and_eq_true] at hg
    obtain ⟨hc, hd⟩ := hg
    have hd := of_decide_eq_true hd
    have h : xex xs L y (i, len, a, b, w) st = some (.inr q) := h
    cases i with
    | iadd  => exact (xK1_no (xk_bin (st := st)) h).elim
    | isub  => exact (xK1_no (xk_bin (st := st)) h).elim
    | imul  => exact (xK1_no (xk_bin (st := st)) h).elim
    | iand  => exact (xK1_no (xk_bin (st := st)) h).elim
    | ior  => exact (xK1_no (xk_bin (st := st)) h).elim
    | ixor  => exact (xK1_no (xk_bin (st := st)) h).elim
    | ishl  => exact (xK1_no (xk_bin (st := st)) h).elim
    | ishr  => exact (xK1_no (xk_bin (st := st)) h).elim
    | iushr  => exact (xK1_no (xk_bin (st := st)) h).elim
    | land  => exact (xK1_no (xk_lbin (st := st)) h).elim
    | lor  => exact (xK1_no (xk_lbin (st := st)) h).elim
    | lshl  => exact (xK1_no (xk_lsh (st := st)) h).elim
    | lshr  => exact (xK1_no (xk_lsh (st := st)) h).elim
    | lushr  => exact (xK1_no (xk_lsh (st := st)) h).elim
    | i2b  => exact (xK1_no (xk_un (st := st)) h).elim
    | i2c  => exact (xK1_no (xk_un (st := st)) h).elim
    | i2l  => exact (xK1_no (xk_i2l (st := st)) h).elim
    | l2i  => exact (xK1_no (xk_l2i (st := st)) h).elim
    | lcmp  => exact (xK1_no (xk_lcmp (st := st)) h).elim
    | idiv  => exact (xK1_no (xk_div (st := st)) h).elim
    | irem  => exact (xK1_no (xk_div (st := st)) h).elim
    | pop  => exact (xK1_no (xk_pop (st := st)) h).elim
    | dup  => exact (xK1_no (xk_dup (st := st)) h).elim
    | dup_x1  => exact (xK1_no (xk_dup_x1 (st := st)) h).elim
    | dup_x2  => exact (xK1_no (xk_dup_x2 (st := st)) h).elim
    | dup2  => exact (xK1_no (xk_dup2 (st := st)) h).elim
    | iaload  => exact (xK1_no (xk_iald (st := st)) h).elim
    | baload  => exact (xK1_no (xk_bald (st := st)) h).elim
    | caload  => exact (xK1_no (xk_cald (st := st)) h).elim
    | iastore  => exact (xK1_no (xk_iast (st := st)) h).elim
    | bastore  => exact (xK1_no (xk_bast (st := st)) h).elim
    | castore  => exact (xK1_no (xk_cast (st := st)) h).elim
    | arraylength  => exact (xK1_no (xk_alen (st := st)) h).elim
    | iconst _ => exact (xK1_no (xk_const (st := st)) h).elim
    | lconst _ => exact (xK1_no (xk_const (st := st)) h).elim
    | bipush _ => exact (xK1_no (xk_const (st := st)) h).elim
    | sipush _ => exact (xK1_no (xk_const (st := st)) h).elim
    | ldc2_w _ => exact (xK1_no (xk_const (st := st)) h).elim
    | iload _ => exact (xK1_no (xk_iload (st := st)) h).elim
    | iload_n _ => exact (xK1_no (xk_iload (st := st)) h).elim
    | lload _ => exact (xK1_no (xk_lload (st := st)) h).elim
    | lload_n _ => exact (xK1_no (xk_lload (st := st)) h).elim
    | aload _ => exact (xK1_no (xk_aload (st := st)) h).elim
    | aload_n _ => exact (xK1_no (xk_aload (st := st)) h).elim
    | istore _ => exact (xK1_no (xk_istore (st := st)) h).elim
    | istore_n _ => exact (xK1_no (xk_istore (st := st)) h).elim
    | astore _ => exact (xK1_no (xk_astore (st := st)) h).elim
    | astore_n _ => exact (xK1_no (xk_astore (st := st)) h).elim
    | goto _ => exact (xK1_no (xk_goto (st := st)) h).elim
    | newarray _ => exact (xK1_no (xk_newa (st := st)) h).elim
    | getstatic _ => exact (xK1_no (xk_gets (st := st)) h).elim
    | getfield _ => exact (xK1_no (xk_getf (st := st)) h).elim
    | putfield _ => exact (xK1_no (xk_putf (st := st)) h).elim
    | iinc _ _ => exact (xK1_no (xk_iinc (st := st)) h).elim
    | ifCond _ _ => exact (xK1_no (xk_if (st := st)) h).elim
    | if_icmp _ _ => exact (xK1_no (xk_icmp (st := st)) h).elim
    | tableswitch _ _ _ _ => exact (xK1_no (xk_tab (st := st)) h).elim
    | lookupswitch _ _ => exact (xK1_no (xk_look (st := st)) h).elim
    | ldc idx =>
      have h2 : (bif Nat.ble (a + 1) 8 then xo_const (.ref (1000 + a)) len else fun _ => none) st = some (.inr q) := h
      cases hq : Nat.ble (a + 1) 8 with
      | false => rw [hq] at h2; cases h2
      | true => rw [hq] at h2; exact (xK1_no (xk_const (st := st)) h2).elim
    | new idx =>
      have h2 : (bif Nat.ble (a + 1) 12 then xo_new (xini.getD a []) a else fun _ => none) st = some (.inr q) := h
      cases hq : Nat.ble (a + 1) 12 with
      | false => rw [hq] at h2; cases h2
      | true => rw [hq] at h2; exact (xK1_no (xk_new (st := st)) h2).elim
    | invokevirtual idx =>
      have h2 : (bif Nat.ble (a + 1) xN then xo_call true (xci a) a b else fun _ => none) st = some (.inr q) := h
      cases hq : Nat.ble (a + 1) xN with
      | false => rw [hq] at h2; cases h2
      | true =>
          rw [hq] at h2
          have ha := Nat.le_of_ble_eq_true hq
          have hcc : (Nat.beq len 3 && (Nat.ble xN a || (Nat.ble (a + 2) xN && xlink y idx a w && xroom y a && Nat.beq (xkd a) 1 && Nat.beq (xna a) b))) = true := hc
          rw [Bool.and_eq_true] at hcc
          have e1 : len = 3 := Nat.eq_of_beq_eq_true hcc.1
          have hcc := hcc.2
          rw [xble_f (show a < xN by omega), Bool.false_or] at hcc
          simp only [Bool.and_eq_true] at hcc
          obtain ⟨⟨⟨⟨g1, g2⟩, g3⟩, g4⟩, g5⟩ := hcc
          have g1 := Nat.le_of_ble_eq_true g1
          have g4 := Nat.eq_of_beq_eq_true g4
          have g5 := Nat.eq_of_beq_eq_true g5
          subst e1
          obtain ⟨As, rest, hn, hct, ⟨-, p, e2, e3, e4⟩ | ⟨e2, -⟩⟩ := xcall_inv h2
          · exact Or.inl ⟨idx, a, w, As, rest, p, hd, ⟨by omega, g2, g3, by omega, hct⟩, g4, e2, e3, e4⟩
          · cases e2
    | invokestatic idx =>
      have h2 : (bif Nat.ble (a + 1) xN then xo_call false 0 a b else bif Nat.beq a 901 then xo_copy else fun _ => none) st = some (.inr q) := h
      cases hq : Nat.ble (a + 1) xN with
      | false =>
        rw [hq] at h2
        simp only [cond_false] at h2
        cases hq2 : Nat.beq a 901 with
        | false => rw [hq2] at h2; cases h2
        | true => rw [hq2] at h2; exact (xK1_no (xk_copy (st := st)) h2).elim
      | true =>
          rw [hq] at h2
          have ha := Nat.le_of_ble_eq_true hq
          have hx9 : Nat.beq a 901 = false := by
            cases hq2 : Nat.beq a 901 with
            | false => rfl
            | true =>
              have := Nat.eq_of_beq_eq_true hq2
              subst this
              exact absurd ha (by decide)
          have hcc : (Nat.beq len 3 && (bif Nat.beq a 901 then decide (lw_tbl[w]? = some (.methodLink (xow y) idx arraycopyName)) && Nat.ble 1 (xfr y) && Nat.ble 26 (xlo y) else (Nat.ble xN a || (Nat.ble (a + 2) xN && xlink y idx a w && xroom y a && Nat.beq (xkd a) 0 && Nat.beq (xna a) b)))) = true := hc
          rw [Bool.and_eq_true, hx9] at hcc
          have e1 : len = 3 := Nat.eq_of_beq_eq_true hcc.1
          simp only [cond_false] at hcc
          have hcc := hcc.2
          rw [xble_f (show a < xN by omega), Bool.false_or] at hcc
          simp only [Bool.and_eq_true] at hcc
          obtain ⟨⟨⟨⟨g1, g2⟩, g3⟩, g4⟩, g5⟩ := hcc
          have g1 := Nat.le_of_ble_eq_true g1
          have g4 := Nat.eq_of_beq_eq_true g4
          have g5 := Nat.eq_of_beq_eq_true g5
          subst e1
          obtain ⟨As, rest, hn, hct, ⟨e2, -⟩ | ⟨-, e2, e3⟩⟩ := xcall_inv h2
          · cases e2
          · exact Or.inr (Or.inl ⟨idx, a, w, As, rest, hd, ⟨by omega, g2, g3, by omega, hct⟩, g4, e2, e3⟩)
    | invokespecial idx =>
      have h2 : (bif Nat.beq a 900 then xo_obj else bif Nat.ble (a + 1) xN then xo_init a b else fun _ => none) st = some (.inr q) := h
      cases hq2 : Nat.beq a 900 with
      | true => rw [hq2] at h2; exact (xK1_no (xk_obj (st := st)) h2).elim
      | false =>
        rw [hq2] at h2
        simp only [cond_false] at h2
        cases hq : Nat.ble (a + 1) xN with
        | false => rw [hq] at h2; cases h2
        | true =>
          rw [hq] at h2
          have ha := Nat.le_of_ble_eq_true hq
          have hcc : (Nat.beq len 3 && (bif Nat.beq a 900 then decide (lw_tbl[w]? = some (.methodLink (xow y) idx objectInit)) && Nat.ble 1 (xfr y) && Nat.ble 20 (xlo y) else (Nat.ble xN a || (Nat.ble (a + 2) xN && xlink y idx a w && xroom y a && Nat.beq (xkd a) 2 && Nat.beq (xna a) b)))) = true := hc
          rw [Bool.and_eq_true, hq2] at hcc
          have e1 : len = 3 := Nat.eq_of_beq_eq_true hcc.1
          simp only [cond_false] at hcc
          have hcc := hcc.2
          rw [xble_f (show a < xN by omega), Bool.false_or] at hcc
          simp only [Bool.and_eq_true] at hcc
          obtain ⟨⟨⟨⟨g1, g2⟩, g3⟩, g4⟩, g5⟩ := hcc
          have g1 := Nat.le_of_ble_eq_true g1
          have g4 := Nat.eq_of_beq_eq_true g4
          have g5 := Nat.eq_of_beq_eq_true g5
          subst e1
          obtain ⟨As, rest, p, hn, hct, hp, e2, e3⟩ := xinit_inv h2
          exact Or.inr (Or.inr (Or.inl ⟨idx, a, w, As, rest, p, hd, ⟨by omega, g2, g3, by omega, hct⟩, g4, hp, e2, e3⟩))
    | ireturn =>
      have e1 : len = 1 := Nat.eq_of_beq_eq_true hc
      have h2 : xo_iret (xm y).2.2.2.1 st = some (.inr q) := h
      subst e1
      unfold xo_iret at h2
      split at h2
      · split at h2
        · rename_i hr
          have h2 := Sum.inr.inj (Option.some.inj h2)
          exact Or.inr (Or.inr (Or.inr (Or.inl ⟨_, h2.symm, rfl, hd, .int, hr, rfl⟩)))
        · rename_i ty hty hr
          rename_i v _
          simp only [Bool.cond_eq_ite] at h2
          split at h2
          · rename_i hn
            have h2 := Sum.inr.inj (Option.some.inj h2)
            exact Or.inr (Or.inr (Or.inr (Or.inl ⟨_, h2.symm, rfl, hd, _, hr, of_decide_eq_true hn⟩)))
          · cases h2
        · cases h2
      · cases h2
    | return_ =>
      have e1 : len = 1 := Nat.eq_of_beq_eq_true hc
      have h2 : xo_vret (xm y).2.2.2.1 st = some (.inr q) := h
      subst e1
      unfold xo_vret at h2
      split at h2
      · split at h2
        · rename_i hr
          have h2 := Sum.inr.inj (Option.some.inj h2)
          exact Or.inr (Or.inr (Or.inr (Or.inr ⟨h2.symm, rfl, hd, hr⟩)))
        · cases h2
      · cases h2
    | _ => cases (show (none : xR) = some (.inr q) from h)
theorem xK1_ok {st st' : xS} {r : xR} (hk : xK1 st r) (h : r = some (.inl st')) : st.2.2.2.1 ≤ st'.2.2.2.1 ∧ xsl st.2.2.2.2.1 ≤ xsl st'.2.2.2.2.1 := by
  rw [h] at hk
  exact hk
set_option maxHeartbeats 4000000 in
theorem x_grow {xs : Nat → Int32} {L y : Nat} {st st' : xS} (h : xstep xs L y st = some (.inl st')) : st.2.2.2.1 ≤ st'.2.2.2.1 ∧ xsl st.2.2.2.2.1 ≤ xsl st'.2.2.2.2.1 := by
  unfold xstep at h
  cases he : xI y st.1 with
  | none => rw [he] at h; cases h
  | some en =>
    rw [he] at h
    obtain ⟨i, len, a, b, w⟩ := en
    have h : xex xs L y (i, len, a, b, w) st = some (.inl st') := h
    cases i with
    | iadd  => exact xK1_ok (xk_bin (st := st)) h
    | isub  => exact xK1_ok (xk_bin (st := st)) h
    | imul  => exact xK1_ok (xk_bin (st := st)) h
    | iand  => exact xK1_ok (xk_bin (st := st)) h
    | ior  => exact xK1_ok (xk_bin (st := st)) h
    | ixor  => exact xK1_ok (xk_bin (st := st)) h
    | ishl  => exact xK1_ok (xk_bin (st := st)) h
    | ishr  => exact xK1_ok (xk_bin (st := st)) h
    | iushr  => exact xK1_ok (xk_bin (st := st)) h
    | land  => exact xK1_ok (xk_lbin (st := st)) h
    | lor  => exact xK1_ok (xk_lbin (st := st)) h
    | lshl  => exact xK1_ok (xk_lsh (st := st)) h
    | lshr  => exact xK1_ok (xk_lsh (st := st)) h
    | lushr  => exact xK1_ok (xk_lsh (st := st)) h
    | i2b  => exact xK1_ok (xk_un (st := st)) h
    | i2c  => exact xK1_ok (xk_un (st := st)) h
    | i2l  => exact xK1_ok (xk_i2l (st := st)) h
    | l2i  => exact xK1_ok (xk_l2i (st := st)) h
    | lcmp  => exact xK1_ok (xk_lcmp (st := st)) h
    | idiv  => exact xK1_ok (xk_div (st := st)) h
    | irem  => exact xK1_ok (xk_div (st := st)) h
    | pop  => exact xK1_ok (xk_pop (st := st)) h
    | dup  => exact xK1_ok (xk_dup (st := st)) h
    | dup_x1  => exact xK1_ok (xk_dup_x1 (st := st)) h
    | dup_x2  => exact xK1_ok (xk_dup_x2 (st := st)) h
    | dup2  => exact xK1_ok (xk_dup2 (st := st)) h
    | iaload  => exact xK1_ok (xk_iald (st := st)) h
    | baload  => exact xK1_ok (xk_bald (st := st)) h
    | caload  => exact xK1_ok (xk_cald (st := st)) h
    | iastore  => exact xK1_ok (xk_iast (st := st)) h
    | bastore  => exact xK1_ok (xk_bast (st := st)) h
    | castore  => exact xK1_ok (xk_cast (st := st)) h
    | arraylength  => exact xK1_ok (xk_alen (st := st)) h
    | iconst _ => exact xK1_ok (xk_const (st := st)) h
    | lconst _ => exact xK1_ok (xk_const (st := st)) h
    | bipush _ => exact xK1_ok (xk_const (st := st)) h
    | sipush _ => exact xK1_ok (xk_const (st := st)) h
    | ldc2_w _ => exact xK1_ok (xk_const (st := st)) h
    | iload _ => exact xK1_ok (xk_iload (st := st)) h
    | iload_n _ => exact xK1_ok (xk_iload (st := st)) h
    | lload _ => exact xK1_ok (xk_lload (st := st)) h
    | lload_n _ => exact xK1_ok (xk_lload (st := st)) h
    | aload _ => exact xK1_ok (xk_aload (st := st)) h
    | aload_n _ => exact xK1_ok (xk_aload (st := st)) h
    | istore _ => exact xK1_ok (xk_istore (st := st)) h
    | istore_n _ => exact xK1_ok (xk_istore (st := st)) h
    | astore _ => exact xK1_ok (xk_astore (st := st)) h
    | astore_n _ => exact xK1_ok (xk_astore (st := st)) h
    | goto _ => exact xK1_ok (xk_goto (st := st)) h
    | newarray _ => exact xK1_ok (xk_newa (st := st)) h
    | getstatic _ => exact xK1_ok (xk_gets (st := st)) h
    | getfield _ => exact xK1_ok (xk_getf (st := st)) h
    | putfield _ => exact xK1_ok (xk_putf (st := st)) h
    | iinc _ _ => exact xK1_ok (xk_iinc (st := st)) h
    | ifCond _ _ => exact xK1_ok (xk_if (st := st)) h
    | if_icmp _ _ => exact xK1_ok (xk_icmp (st := st)) h
    | tableswitch _ _ _ _ => exact xK1_ok (xk_tab (st := st)) h
    | lookupswitch _ _ => exact xK1_ok (xk_look (st := st)) h
    | ldc idx =>
      have h2 : (bif Nat.ble (a + 1) 8 then xo_const (.ref (1000 + a)) len else fun _ => none) st = some (.inl st') := h
      cases hq : Nat.ble (a + 1) 8 with
      | false => rw [hq] at h2; cases h2
      | true => rw [hq] at h2; exact xK1_ok (xk_const (st := st)) h2
    | new idx =>
      have h2 : (bif Nat.ble (a + 1) 12 then xo_new (xini.getD a []) a else fun _ => none) st = some (.inl st') := h
      cases hq : Nat.ble (a + 1) 12 with
      | false => rw [hq] at h2; cases h2
      | true => rw [hq] at h2; exact xK1_ok (xk_new (st := st)) h2
    | invokevirtual idx =>
      have h2 : (bif Nat.ble (a + 1) xN then xo_call true (xci a) a b else fun _ => none) st = some (.inl st') := h
      cases hq : Nat.ble (a + 1) xN with
      | false => rw [hq] at h2; cases h2
      | true => rw [hq] at h2; exact (xo_call_no h2).elim
    | invokestatic idx =>
      have h2 : (bif Nat.ble (a + 1) xN then xo_call false 0 a b else bif Nat.beq a 901 then xo_copy else fun _ => none) st = some (.inl st') := h
      cases hq : Nat.ble (a + 1) xN with
      | true => rw [hq] at h2; exact (xo_call_no h2).elim
      | false =>
        rw [hq] at h2
        simp only [cond_false] at h2
        cases hq2 : Nat.beq a 901 with
        | false => rw [hq2] at h2; cases h2
        | true => rw [hq2] at h2; exact xK1_ok (xk_copy (st := st)) h2
    | invokespecial idx =>
      have h2 : (bif Nat.beq a 900 then xo_obj else bif Nat.ble (a + 1) xN then xo_init a b else fun _ => none) st = some (.inl st') := h
      cases hq2 : Nat.beq a 900 with
      | true => rw [hq2] at h2; exact xK1_ok (xk_obj (st := st)) h2
      | false =>
        rw [hq2] at h2
        simp only [cond_false] at h2
        cases hq : Nat.ble (a + 1) xN with
        | false => rw [hq] at h2; cases h2
        | true => rw [hq] at h2; exact (xo_init_no h2).elim
    | ireturn => exact (xo_iret_no (show xo_iret _ st = _ from h)).elim
    | return_ => exact (xo_vret_no (show xo_vret _ st = _ from h)).elim
    | _ => cases (show (none : xR) = some (.inl st') from h)
