/-! THE ANALYZER, nine: frames, calls, returns -/
abbrev aFr : Type := Nat × Nat × List (Option aV) × List aV
abbrev cFr : Type := Nat × Nat × List (Option Value) × List Value
abbrev aPt : Type := (Int × Int) ⊕ (Unit ⊕ Nat)
/-- a contract: the method, its arguments, cells that are at least so much, its result, what it writes -/
abbrev aCt : Type := Nat × List aPt × List ((Nat × Nat) × Int) × Option (Int × Int) × aW
def aPv : aPt → Value → Prop
  | .inl q, .int x => q.1 ≤ x.toInt ∧ x.toInt ≤ q.2
  | .inr (.inl _), .long _ => True
  | .inr (.inr p), .ref q => q = p
  | _, _ => False
def aPvs : List aPt → List Value → Prop
  | [], [] => True
  | a :: l, v :: m => aPv a v ∧ aPvs l m
  | _, _ => False
def aRk (M : xM) : Prop := ∀ (j : Nat) (r : aRw), aRws[j]? = some r → ∀ i : Nat, acnd1 r M i
def aRes : Option (Int × Int) → Option Value → Prop
  | none, none => True
  | some q, some (.int x) => q.1 ≤ x.toInt ∧ x.toInt ≤ q.2
  | _, _ => False
def aPost (res : Option (Int × Int)) (w : aW) (M : xM) (r : xZ) : Prop := ∃ M', r.2 = (102, xsh0, M') ∧ aInv M' ∧ aRk M' ∧ aRes res r.1 ∧ aUnw w M M'
def aCon (xs : Nat → Int32) (L : Nat) (c : aCt) : Prop := ∀ (M : xM) (as : List Value), aInv M → aRk M → aPvs c.2.1 as → (∀ t ∈ c.2.2.1, t.2 ≤ (M t.1.1 t.1.2).toInt) → PL xs L c.1 (0, xent c.1 as, [], 102, xsh0, M) (aPost c.2.2.2.1 c.2.2.2.2 M)
section AFR
variable {xs : Nat → Int32} {L : Nat} {prs : List (Nat × Nat)} {ρ : Nat → Int}
def acont (xs : Nat → Int32) (L : Nat) (Q : xZ → Prop) : List cFr → xZ → Prop
  | [], r => Q r
  | f :: fs, r => r.2.1 = 102 ∧ PL xs L f.1 (f.2.1, f.2.2.1, r.1.toList ++ f.2.2.2, r.2) (acont xs L Q fs)
def aGl (xs : Nat → Int32) (L : Nat) (Q : xZ → Prop) (M : xM) : List cFr → Prop
  | [] => False
  | f :: fs => PL xs L f.1 (f.2.1, f.2.2.1, f.2.2.2, 102, xsh0, M) (acont xs L Q fs)
def afrs (ρ : Nat → Int) : List aFr → List cFr → Prop
  | [], [] => True
  | a :: l, c :: m => (c.1 = a.1 ∧ c.2.1 = a.2.1 ∧ aloc ρ a.2.2.1 c.2.2.1 ∧ astk ρ a.2.2.2 c.2.2.2) ∧ afrs ρ l m
  | _, _ => False
def aHS (xs : Nat → Int32) (L : Nat) (prs : List (Nat × Nat)) (M : xM) (K : aKn) (ρ : Nat → Int) (fr : List aFr) (cfr : List cFr) : Prop := ∀ ρ', agr K.1 ρ ρ' → aKok xs L prs aRws ρ' K M ∧ afrs ρ' fr cfr
-- ---- lists of values
theorem astk_drop {n : Nat} : ∀ {l : List aV} {m : List Value}, astk ρ l m → astk ρ (l.drop n) (m.drop n) := by
  induction n with
  | zero => exact fun h => h
  | succ n ih =>
    intro l m h
    match l, m, h with
    | [], [], _ => exact trivial
    | a :: l, v :: m, h => exact ih h.2
theorem astk_take {n : Nat} : ∀ {l : List aV} {m : List Value}, astk ρ l m → astk ρ (l.take n) (m.take n) := by
  induction n with
  | zero => exact fun _ => trivial
  | succ n ih =>
    intro l m h
    match l, m, h with
    | [], [], _ => exact trivial
    | a :: l, v :: m, h => exact ⟨h.1, ih h.2⟩
theorem astk_app : ∀ {l : List aV} {m : List Value} {l' : List aV} {m' : List Value}, astk ρ l m → astk ρ l' m' → astk ρ (l ++ l') (m ++ m')
  | [], [], _, _, _, h' => h'
  | _ :: _, _ :: _, _, _, h, h' => ⟨h.1, astk_app h.2 h'⟩
theorem astk_rev : ∀ {l : List aV} {m : List Value}, astk ρ l m → astk ρ l.reverse m.reverse
  | [], [], _ => trivial
  | a :: l, v :: m, h => by
    rw [List.reverse_cons, List.reverse_cons]
    exact astk_app (astk_rev h.2) ⟨h.1, trivial⟩
theorem astk_len : ∀ {l : List aV} {m : List Value}, astk ρ l m → m.length = l.length
  | [], [], _ => rfl
  | _ :: _, _ :: _, h => congrArg (· + 1) (astk_len h.2)
-- ---- calls
def axrcv (ci p : Nat) : Bool := bif Nat.beq ci 100 then Nat.ble 1000 p && Nat.ble (p + 1) 1008 else match aSha p with
  | some (.inr (c, _)) => Nat.beq c ci
  | _ => false
theorem axrcv_of {ci p : Nat} (h : axrcv ci p = true) : xrcv ci p xsh0 = true := by
  unfold axrcv at h
  unfold xrcv
  cases c : Nat.beq ci 100 with
  | true => rw [c] at h; exact h
  | false =>
    rw [c] at h
    dsimp only [cond_false] at h ⊢
    split at h
    · rename_i d fs es
      rw [aSha_of es]
      exact h
    · cases h
def aca (e : xEn) (sk : List aV) : Option (Nat × List aV × List aV) := match e with
  | (i, _, a, b, _) => match i with
    | .invokevirtual _ => bif Nat.ble (a + 1) xN && Nat.ble b sk.length then (match sk.drop b with
      | .inr (.inr (.inl p)) :: rest => bif Nat.ble (acat rest) 8 && axrcv (xci a) p then some (a, .inr (.inr (.inl p)) :: (sk.take b).reverse, rest) else none
      | _ => none) else none
    | .invokestatic _ => bif Nat.ble (a + 1) xN && Nat.ble b sk.length && Nat.ble (acat (sk.drop b)) 8 then some (a, (sk.take b).reverse, sk.drop b) else none
    | _ => none
theorem aca_of {y pc z : Nat} {e : xEn} {sk as rest : List aV} {plc : List (Option Value)} {skc : List Value} {M : xM} (h : aca e sk = some (z, as, rest)) (hs : astk ρ sk skc) : ∃ asc restc, xex xs L y e (pc, plc, skc, 102, xsh0, M) = some (.inr (.inl (z, asc, pc + 3, plc, restc, 102, xsh0, M))) ∧ ∀ ρ', astk ρ' sk skc → astk ρ' as asc ∧ astk ρ' rest restc := by
  obtain ⟨i, len, a, b, x⟩ := e
  unfold aca at h
  dsimp only at h
  split at h
  · cases c : Nat.ble (a + 1) xN && Nat.ble b sk.length with
    | false => rw [c] at h; cases h
    | true =>
      rw [c] at h
      rw [Bool.and_eq_true] at c
      dsimp only [cond_true] at h
      split at h
      · rename_i p rest' ed
        cases c1 : Nat.ble (acat rest') 8 && axrcv (xci a) p with
        | false => rw [c1] at h; cases h
        | true =>
          rw [c1] at h
          cases h
          rw [Bool.and_eq_true] at c1
          have hd := astk_drop (n := b) hs
          rw [ed] at hd
          obtain ⟨v, m, ev⟩ := astk_cons hd
          rw [ev] at hd
          have e0 := aval_ref hd.1
          subst e0
          refine ⟨.ref p :: (skc.take b).reverse, m, ?_, fun ρ' h' => ?_⟩
          · show (bif Nat.ble (z + 1) xN then xo_call true (xci z) z b else fun _ => none) (pc, plc, skc, 102, xsh0, M) = _
            rw [c.1]
            have cl : Nat.ble b skc.length = true := by rw [astk_len hs]; exact c.2
            simp only [cond_true, xo_call, cl, ev, xcat_of hd.2 c1.1, axrcv_of c1.2, Bool.and_self]
          · have hd' := astk_drop (n := b) h'
            rw [ed, ev] at hd'
            exact ⟨⟨rfl, astk_rev (astk_take h')⟩, hd'.2⟩
      · cases h
  · cases c : Nat.ble (a + 1) xN && Nat.ble b sk.length && Nat.ble (acat (sk.drop b)) 8 with
    | false => rw [c] at h; cases h
    | true =>
      rw [c] at h
      cases h
      rw [Bool.and_eq_true, Bool.and_eq_true] at c
      refine ⟨(skc.take b).reverse, skc.drop b, ?_, fun ρ' h' => ⟨astk_rev (astk_take h'), astk_drop h'⟩⟩
      show (bif Nat.ble (z + 1) xN then xo_call false 0 z b else bif Nat.beq z 901 then xo_copy else fun _ => none) (pc, plc, skc, 102, xsh0, M) = _
      rw [c.1.1]
      have cl : Nat.ble b skc.length = true := by rw [astk_len hs]; exact c.1.2
      simp only [cond_true, cond_false, xo_call, cl, xcat_of (astk_drop hs) c.2]
  · cases h
def aargs : List aV → List (Option aV)
  | [] => []
  | a :: l => bif ac1 a then some a :: aargs l else some a :: none :: aargs l
theorem aargs_of : ∀ {l : List aV} {m : List Value}, astk ρ l m → aloc ρ (aargs l) (xargs m)
  | [], [], _ => trivial
  | a :: l, v :: m, h => by
    have ih := aargs_of h.2
    unfold aargs
    match a, v, h with
    | .inl _, .int _, h => exact ⟨h.1, ih⟩
    | .inr (.inl (some _)), .long _, h => exact ⟨h.1, trivial, ih⟩
    | .inr (.inl none), .long _, h => exact ⟨h.1, trivial, ih⟩
    | .inr (.inr (.inl _)), .ref _, h => exact ⟨h.1, ih⟩
    | .inr (.inr (.inr _)), .int _, h => exact ⟨h.1, ih⟩
def axent (z : Nat) (as : List aV) : List (Option aV) := aargs as ++ List.replicate ((xm z).2.2.1 - (aargs as).length) none
theorem aloc_app : ∀ {l : List (Option aV)} {m : List (Option Value)} {l' : List (Option aV)} {m' : List (Option Value)}, aloc ρ l m → aloc ρ l' m' → aloc ρ (l ++ l') (m ++ m')
  | [], [], _, _, _, h' => h'
  | _ :: _, _ :: _, _, _, h, h' => ⟨h.1, aloc_app h.2 h'⟩
theorem aloc_none : ∀ (n : Nat), aloc ρ (List.replicate n none) (List.replicate n none)
  | 0 => trivial
  | n + 1 => by
    rw [List.replicate_succ, List.replicate_succ]
    exact ⟨trivial, aloc_none n⟩
theorem axent_of {z : Nat} {as : List aV} {asc : List Value} (h : astk ρ as asc) : aloc ρ (axent z as) (xent z asc) := by
  unfold axent xent
  have h1 := aargs_of h
  rw [aloc_len h1]
  exact aloc_app h1 (aloc_none _)
-- ---- returns
def aret (y : Nat) (e : xEn) (sk : List aV) (K : aKn) : Option (Option aL) := match e.1 with
  | .ireturn => (match sk with
    | [.inl v] => (match (xm y).2.2.2.1 with
      | some .int => some (some v)
      | some .boolean => bif abt K v (0, 1) then some (some v) else none
      | some .byte => bif abt K v (-128, 127) then some (some v) else none
      | some .char => bif abt K v (0, 65535) then some (some v) else none
      | _ => none)
    | _ => none)
  | .return_ => (match sk, (xm y).2.2.2.1 with
    | [], none => some none
    | _, _ => none)
  | _ => none
def aretv (ρ : Nat → Int) : Option aL → Option Value → Prop
  | none, none => True
  | some l, some (.int x) => x.toInt = aev ρ l
  | _, _ => False
theorem aret_of {y pc : Nat} {e : xEn} {sk : List aV} {K : aKn} {M : xM} {r : Option aL} {plc : List (Option Value)} {skc : List Value} (hK : aKok xs L prs aRws ρ K M) (h : aret y e sk K = some r) (hs : astk ρ sk skc) : ∃ v, xex xs L y e (pc, plc, skc, 102, xsh0, M) = some (.inr (.inr v)) ∧ ∀ ρ', astk ρ' sk skc → aretv ρ' r v := by
  obtain ⟨i, len, a, b, x⟩ := e
  unfold aret at h
  dsimp only at h
  split at h
  · split at h
    · rename_i v
      obtain ⟨u, m, e⟩ := astk_cons hs
      subst e
      obtain ⟨z, e⟩ := aval_int hs.1
      subst e
      match m, hs with
      | [], hs =>
        have hz : z.toInt = aev ρ v := hs.1
        have fin : ∀ r', r' = some v → ∀ ρ', astk ρ' [Sum.inl v] [Value.int z] → aretv ρ' r' (some (.int z)) := fun r' er ρ' h' => by rw [er]; exact h'.1
        show ∃ v, xo_iret (xm y).2.2.2.1 (pc, plc, [.int z], 102, xsh0, M) = some (.inr (.inr v)) ∧ _
        split at h
        · rename_i er
          cases h
          refine ⟨some (.int z), ?_, fin _ rfl⟩
          simp only [xo_iret, er]
        · rename_i er
          cases c : abt K v (0, 1) with
          | false => rw [c] at h; cases h
          | true =>
            rw [c] at h
            cases h
            have hb := abt_of hK c
            rw [← hz] at hb
            have hb1 : 0 ≤ z.toInt := hb.1
            have hb2 : z.toInt ≤ 1 := hb.2
            refine ⟨some (.int z), ?_, fin _ rfl⟩
            have hn : narrow .boolean (.int z) = .int z := by
              have : z.toInt = (0 : Int32).toInt ∨ z.toInt = (1 : Int32).toInt := by
                have e0 : (0 : Int32).toInt = 0 := by decide
                have e1 : (1 : Int32).toInt = 1 := by decide
                omega
              rcases this with e | e
              · rw [Int32.toInt_inj.mp e]; rfl
              · rw [Int32.toInt_inj.mp e]; rfl
            simp only [xo_iret, er, hn, decide_true, cond_true]
        · rename_i er
          cases c : abt K v (-128, 127) with
          | false => rw [c] at h; cases h
          | true =>
            rw [c] at h
            cases h
            have hb := abt_of hK c
            rw [← hz] at hb
            refine ⟨some (.int z), ?_, fin _ rfl⟩
            have hn : narrow .byte (.int z) = .int z := by
              have := vp_nar_b hb.1 hb.2
              rw [vp_nar_byte] at this
              show Value.int z.toInt8.toInt32 = _
              rw [this]
            simp only [xo_iret, er, hn, decide_true, cond_true]
        · rename_i er
          cases c : abt K v (0, 65535) with
          | false => rw [c] at h; cases h
          | true =>
            rw [c] at h
            cases h
            have hb := abt_of hK c
            rw [← hz] at hb
            refine ⟨some (.int z), ?_, fin _ rfl⟩
            have hn : narrow .char (.int z) = .int z := by
              have h1 := pk_vc z
              rw [i16_id hb.1 hb.2, vp_nar_char] at h1
              show Value.int z.toUInt32.toUInt16.toUInt32.toInt32 = _
              rw [h1]
            simp only [xo_iret, er, hn, decide_true, cond_true]
        · cases h
    · cases h
  · split at h
    · rename_i er
      cases h
      match skc, hs with
      | [], _ =>
        refine ⟨none, ?_, fun _ _ => trivial⟩
        show xo_vret (xm y).2.2.2.1 (pc, plc, [], 102, xsh0, M) = _
        simp only [xo_vret, er]
    · cases h
  · cases h
end AFR
