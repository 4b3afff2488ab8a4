/-! THE ANALYZER, eight: every instruction that stays in its frame -/
section AOP6
variable {xs : Nat → Int32} {L : Nat} {prs : List (Nat × Nat)} {w : aW} {M : xM} {K : aKn} {ρ : Nat → Int} {pl : List (Option aV)} {sk : List aV} {plc : List (Option Value)} {skc : List Value} {pc : Nat} {l : List aT}
def aex (prs : List (Nat × Nat)) (w : aW) (e : xEn) (pc : Nat) (pl : List (Option aV)) (sk : List aV) (K : aKn) : Option (List aT) := match e with
  | (i, len, a, b, _) => match i with
    | .iconst n => ao_push (.inl (aco (Int32.ofInt n).toInt)) len pc pl sk K
    | .bipush n => ao_push (.inl (aco (Int8.ofInt n).toInt32.toInt)) len pc pl sk K
    | .sipush n => ao_push (.inl (aco (Int16.ofInt n).toInt32.toInt)) len pc pl sk K
    | .lconst n => ao_push (.inr (.inl (some (aco (Int64.ofNat (n : Nat)).toInt)))) len pc pl sk K
    | .ldc _ => bif Nat.ble (a + 1) 8 then ao_push (.inr (.inr (.inl (1000 + a)))) len pc pl sk K else none
    | .ldc2_w _ => ao_push (.inr (.inl (some (aco (Int64.ofNat a).toInt)))) len pc pl sk K
    | .iload_n k => ao_load 0 k len pc pl sk K
    | .iload k => ao_load 0 k len pc pl sk K
    | .lload_n k => ao_load 1 k len pc pl sk K
    | .lload k => ao_load 1 k len pc pl sk K
    | .aload_n k => ao_load 2 k len pc pl sk K
    | .aload k => ao_load 2 k len pc pl sk K
    | .istore_n k => ao_istore k len pc pl sk K
    | .istore k => ao_istore k len pc pl sk K
    | .astore_n k => ao_astore k len pc pl sk K
    | .astore k => ao_astore k len pc pl sk K
    | .iinc k n => ao_iinc k n len pc pl sk K
    | .iadd => ao_bin af_add pc pl sk K
    | .isub => ao_bin af_sub pc pl sk K
    | .imul => ao_bin af_mul pc pl sk K
    | .iand => ao_bin (af_nl 1) pc pl sk K
    | .ior => ao_bin (af_nl 2) pc pl sk K
    | .ixor => ao_bin (af_nl 3) pc pl sk K
    | .ishl => ao_bin (af_nl 4) pc pl sk K
    | .ishr => ao_bin (af_nl 5) pc pl sk K
    | .iushr => ao_bin (af_nl 6) pc pl sk K
    | .idiv => ao_bin (af_nl 7) pc pl sk K
    | .irem => ao_bin (af_nl 8) pc pl sk K
    | .land => ao_lbin true pc pl sk K
    | .lor => ao_lbin false pc pl sk K
    | .lshl => ao_lsh pc pl sk K
    | .lshr => ao_lsh pc pl sk K
    | .lushr => ao_lsh pc pl sk K
    | .i2b => ao_i2b pc pl sk K
    | .i2c => ao_i2c pc pl sk K
    | .i2l => ao_i2l pc pl sk K
    | .l2i => ao_l2i pc pl sk K
    | .lcmp => ao_lcmp pc pl sk K
    | .pop => ao_pop pc pl sk K
    | .dup => ao_dup pc pl sk K
    | .dup_x1 => ao_dup_x1 pc pl sk K
    | .dup_x2 => ao_dup_x2 pc pl sk K
    | .dup2 => ao_dup2 pc pl sk K
    | .ifCond op _ => ao_if op a pc pl sk K
    | .if_icmp op _ => ao_icmp op a pc pl sk K
    | .goto _ => ao_goto a pl sk K
    | .tableswitch dflt lo hi offs => ao_tab dflt lo hi offs.toList pc pl sk K
    | .lookupswitch dflt ps => ao_look dflt ps.toList pc pl sk K
    | .iaload => ao_iald prs pc pl sk K
    | .baload => ao_bald prs pc pl sk K
    | .caload => ao_cald prs pc pl sk K
    | .iastore => ao_iast prs w pc pl sk K
    | .bastore => ao_bast prs w pc pl sk K
    | .arraylength => ao_alen pc pl sk K
    | .getstatic _ => ao_gets a pc pl sk K
    | .getfield _ => ao_getf prs a b pc pl sk K
    | .putfield _ => ao_putf prs w a b pc pl sk K
    | .invokestatic _ => bif Nat.ble (a + 1) xN then none else bif Nat.beq a 901 then ao_copy prs w pc pl sk K else none
    | _ => none
theorem aex_of {y : Nat} {e : xEn} (hp : ∀ pr ∈ prs, pr.1 ≠ pr.2) (hL : L ≤ 2560) (h : aex prs w e pc pl sk K = some l) (hM : aInv M) (hR : aHR xs L prs M K ρ pl sk plc skc) : aOut xs L prs w M K ρ l (xex xs L y e (pc, plc, skc, 102, xsh0, M)) := by
  obtain ⟨i, len, a, b, z⟩ := e
  have hnl : ∀ {o : Nat} {x y : aL} {c d : Int32} {q : aL × aKn}, af_nl o K x y = some q → (∀ ρ', agr K.1 ρ ρ' → c.toInt = aev ρ' x) → (∀ ρ', agr K.1 ρ ρ' → d.toInt = aev ρ' y) → (false = true → d ≠ 0) ∧ aNew xs L prs M K ρ q.2 (fun ρ' => (aopf o c d).toInt = aev ρ' q.1) := fun e ha hb => ⟨fun z => (by cases z), (af_nl_of hR.kn e ha hb).2⟩
  cases i with
  | iconst n => exact ao_push_of (a := .inl (aco (Int32.ofInt n).toInt)) (fun ρ => aev_co.symm) h hM hR
  | bipush n => exact ao_push_of (a := .inl (aco (Int8.ofInt n).toInt32.toInt)) (fun ρ => aev_co.symm) h hM hR
  | sipush n => exact ao_push_of (a := .inl (aco (Int16.ofInt n).toInt32.toInt)) (fun ρ => aev_co.symm) h hM hR
  | lconst n => exact ao_push_of (a := .inr (.inl (some (aco (Int64.ofNat (n : Nat)).toInt)))) (fun ρ => aev_co.symm) h hM hR
  | ldc n =>
    have h : (bif Nat.ble (a + 1) 8 then ao_push (.inr (.inr (.inl (1000 + a)))) len pc pl sk K else none) = some l := h
    show aOut xs L prs w M K ρ l ((bif Nat.ble (a + 1) 8 then xo_const (.ref (1000 + a)) len else fun _ => none) (pc, plc, skc, 102, xsh0, M))
    cases c : Nat.ble (a + 1) 8 with
    | false => rw [c] at h; cases h
    | true =>
      rw [c] at h
      exact ao_push_of (a := .inr (.inr (.inl (1000 + a)))) (v := .ref (1000 + a)) (fun ρ => rfl) h hM hR
  | ldc2_w n => exact ao_push_of (a := .inr (.inl (some (aco (Int64.ofNat a).toInt)))) (fun ρ => aev_co.symm) h hM hR
  | iload_n k => exact ao_load_of (k := 0) h hM hR
  | iload k => exact ao_load_of (k := 0) h hM hR
  | lload_n k => exact ao_load_of (k := 1) h hM hR
  | lload k => exact ao_load_of (k := 1) h hM hR
  | aload_n k => exact ao_load_of (k := 2) h hM hR
  | aload k => exact ao_load_of (k := 2) h hM hR
  | istore_n k => exact ao_istore_of h hM hR
  | istore k => exact ao_istore_of h hM hR
  | astore_n k => exact ao_astore_of h hM hR
  | astore k => exact ao_astore_of h hM hR
  | iinc k n => exact ao_iinc_of h hM hR
  | iadd => exact ao_bin_of (f := af_add) (g := fun x y => x + y) (dv := false) h hM hR (fun x y c d q e ha hb => ⟨fun z => (by cases z), af_add_of hR.kn e ha hb⟩)
  | isub => exact ao_bin_of (f := af_sub) (g := fun x y => x - y) (dv := false) h hM hR (fun x y c d q e ha hb => ⟨fun z => (by cases z), af_sub_of hR.kn e ha hb⟩)
  | imul => exact ao_bin_of (f := af_mul) (g := fun x y => x * y) (dv := false) h hM hR (fun x y c d q e ha hb => ⟨fun z => (by cases z), af_mul_of hR.kn e ha hb⟩)
  | iand => exact ao_bin_of (f := af_nl 1) (dv := false) (g := aopf 1) h hM hR (fun x y c d q e ha hb => hnl e ha hb)
  | ior => exact ao_bin_of (f := af_nl 2) (dv := false) (g := aopf 2) h hM hR (fun x y c d q e ha hb => hnl e ha hb)
  | ixor => exact ao_bin_of (f := af_nl 3) (dv := false) (g := aopf 3) h hM hR (fun x y c d q e ha hb => hnl e ha hb)
  | ishl => exact ao_bin_of (f := af_nl 4) (dv := false) (g := aopf 4) h hM hR (fun x y c d q e ha hb => hnl e ha hb)
  | ishr => exact ao_bin_of (f := af_nl 5) (dv := false) (g := aopf 5) h hM hR (fun x y c d q e ha hb => hnl e ha hb)
  | iushr => exact ao_bin_of (f := af_nl 6) (dv := false) (g := aopf 6) h hM hR (fun x y c d q e ha hb => hnl e ha hb)
  | idiv => exact ao_bin_of (f := af_nl 7) (dv := true) (g := aopf 7) h hM hR (fun x y c d q e ha hb => ⟨fun _ => (af_nl_of hR.kn e ha hb).1 rfl, (af_nl_of hR.kn e ha hb).2⟩)
  | irem => exact ao_bin_of (f := af_nl 8) (dv := true) (g := aopf 8) h hM hR (fun x y c d q e ha hb => ⟨fun _ => (af_nl_of hR.kn e ha hb).1 rfl, (af_nl_of hR.kn e ha hb).2⟩)
  | land => exact ao_lbin_of (an := true) (fun _ => rfl) h hM hR
  | lor => exact ao_lbin_of (an := false) (fun z => (by cases z)) h hM hR
  | lshl => exact ao_lsh_of h hM hR
  | lshr => exact ao_lsh_of h hM hR
  | lushr => exact ao_lsh_of h hM hR
  | i2b => exact ao_i2b_of h hM hR
  | i2c => exact ao_i2c_of h hM hR
  | i2l => exact ao_i2l_of h hM hR
  | l2i => exact ao_l2i_of h hM hR
  | lcmp => exact ao_lcmp_of h hM hR
  | pop => exact ao_pop_of h hM hR
  | dup => exact ao_dup_of h hM hR
  | dup_x1 => exact ao_dup_x1_of h hM hR
  | dup_x2 => exact ao_dup_x2_of h hM hR
  | dup2 => exact ao_dup2_of h hM hR
  | ifCond op t => exact ao_if_of h hM hR
  | if_icmp op t => exact ao_icmp_of h hM hR
  | goto t => exact ao_goto_of (pc := pc) h hM hR
  | tableswitch d lo hi offs => exact ao_tab_of h hM hR
  | lookupswitch d ps => exact ao_look_of h hM hR
  | iaload => exact ao_iald_of h hM hR
  | baload => exact ao_bald_of h hM hR
  | caload => exact ao_cald_of h hM hR
  | iastore => exact ao_iast_of hp h hM hR
  | bastore => exact ao_bast_of hp h hM hR
  | arraylength => exact ao_alen_of hL h hM hR
  | getstatic f => exact ao_gets_of h hM hR
  | getfield f => exact ao_getf_of h hM hR
  | putfield f => exact ao_putf_of hp h hM hR
  | invokestatic f =>
    have h : (bif Nat.ble (a + 1) xN then none else bif Nat.beq a 901 then ao_copy prs w pc pl sk K else none) = some l := h
    show aOut xs L prs w M K ρ l ((bif Nat.ble (a + 1) xN then xo_call false 0 a b else bif Nat.beq a 901 then xo_copy else fun _ => none) (pc, plc, skc, 102, xsh0, M))
    cases c : Nat.ble (a + 1) xN with
    | true => rw [c] at h; cases h
    | false =>
      rw [c] at h
      cases c1 : Nat.beq a 901 with
      | false => rw [c1] at h; cases h
      | true =>
        rw [c1] at h
        exact ao_copy_of h hM hR
  | _ => cases h
end AOP6
theorem PL.callL {xs : Nat → Int32} {L y : Nat} {s : xS} {z : Nat} {as : List Value} {pc : Nat} {pl : List (Option Value)} {st : List Value} {nz : Nat} {sh : List xSh} {M : xM} {Q : xZ → Prop} (h : xstep xs L y s = some (.inr (.inl (z, as, pc, pl, st, nz, sh, M)))) (hn : (xargs as).length ≤ (xm z).2.2.1)
    (k : PL xs L z (0, xent z as, [], nz, sh, M) (fun r => r.2.1 = nz ∧ PL xs L y (pc, pl, r.1.toList ++ st, r.2) Q)) : PL xs L y s Q := by
  obtain ⟨n1, ⟨v, nz', sh', M'⟩, h1, hz, n2, r2, h2, h3⟩ := k
  have hz : nz' = nz := hz
  refine ⟨n1 + n2 + 1, r2, ?_, h3⟩
  unfold xrun
  rw [h]
  have e1 := xrun_add h1 n2
  have e2 := xrun_add h2 n1
  rw [Nat.add_comm n2 n1] at e2
  simp only [Nat.ble_eq_true_of_le hn, cond_true, e1]
  subst hz
  rw [show Nat.beq nz' nz' = true from Nat.beq_refl nz', Bool.true_or]
  exact e2
theorem PL.imp {xs : Nat → Int32} {L y : Nat} {s : xS} {Q Q' : xZ → Prop} (h : PL xs L y s Q) (k : ∀ r, Q r → Q' r) : PL xs L y s Q' := by
  obtain ⟨n, r, h1, h2⟩ := h
  exact ⟨n, r, h1, k r h2⟩
