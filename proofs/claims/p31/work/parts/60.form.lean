/-! FORMS: a number is a constant and a sum of ids with factors; ids have bounds (E); facts (F) are forms that are at most 0 -/
abbrev aL : Type := Int × List (Nat × Int)
abbrev aE : Type := List (Nat × Int × Int)
def ileb : Int → Int → Bool
  | .ofNat m, .ofNat n => Nat.ble m n
  | .negSucc _, .ofNat _ => true
  | .ofNat _, .negSucc _ => false
  | .negSucc m, .negSucc n => Nat.ble n m
theorem ileb_iff {a b : Int} : ileb a b = true ↔ a ≤ b := by
  match a, b with
  | .ofNat m, .ofNat n =>
    show Nat.ble m n = true ↔ _
    rw [Nat.ble_eq]
    exact Int.ofNat_le.symm
  | .negSucc m, .ofNat n => exact ⟨fun _ => Int.le_trans (Int.le_of_lt (Int.negSucc_lt_zero m)) (Int.natCast_nonneg n), fun _ => rfl⟩
  | .ofNat m, .negSucc n =>
    refine ⟨fun h => (by cases h), fun h => ?_⟩
    have h1 := Int.negSucc_lt_zero n
    have h2 : (0 : Int) ≤ Int.ofNat m := Int.natCast_nonneg m
    omega
  | .negSucc m, .negSucc n =>
    show Nat.ble n m = true ↔ _
    rw [Nat.ble_eq]
    omega
def ieqb (a b : Int) : Bool := ileb a b && ileb b a
theorem ieqb_iff {a b : Int} : ieqb a b = true ↔ a = b := by
  unfold ieqb
  rw [Bool.and_eq_true, ileb_iff, ileb_iff]
  omega
def aevT (ρ : Nat → Int) : List (Nat × Int) → Int
  | [] => 0
  | t :: l => t.2 * ρ t.1 + aevT ρ l
def aev (ρ : Nat → Int) (l : aL) : Int := l.1 + aevT ρ l.2
def ains (k : Nat) (a : Int) : List (Nat × Int) → List (Nat × Int)
  | [] => [(k, a)]
  | t :: l => bif Nat.beq t.1 k then (bif ieqb (a + t.2) 0 then l else (k, a + t.2) :: l) else bif Nat.ble k t.1 then (k, a) :: t :: l else t :: ains k a l
theorem aev_ins {ρ : Nat → Int} {k : Nat} {a : Int} : ∀ {l : List (Nat × Int)}, aevT ρ (ains k a l) = a * ρ k + aevT ρ l
  | [] => rfl
  | t :: l => by
    unfold ains
    cases h1 : Nat.beq t.1 k with
    | true =>
      have e : t.1 = k := Nat.eq_of_beq_eq_true h1
      cases h2 : ieqb (a + t.2) 0 with
      | true =>
        rw [ieqb_iff] at h2
        show aevT ρ l = a * ρ k + (t.2 * ρ t.1 + aevT ρ l)
        rw [e, ← Int.add_assoc, ← Int.add_mul, h2]
        omega
      | false =>
        show (a + t.2) * ρ k + aevT ρ l = a * ρ k + (t.2 * ρ t.1 + aevT ρ l)
        rw [e, ← Int.add_assoc, ← Int.add_mul]
    | false =>
      cases h2 : Nat.ble k t.1 with
      | true => rfl
      | false =>
        show t.2 * ρ t.1 + aevT ρ (ains k a l) = a * ρ k + (t.2 * ρ t.1 + aevT ρ l)
        rw [aev_ins]
        omega
def aaddT (l m : List (Nat × Int)) : List (Nat × Int) := l.foldr (fun t r => ains t.1 t.2 r) m
theorem aev_addT {ρ : Nat → Int} {m : List (Nat × Int)} : ∀ {l : List (Nat × Int)}, aevT ρ (aaddT l m) = aevT ρ l + aevT ρ m
  | [] => by
    show aevT ρ m = 0 + aevT ρ m
    omega
  | t :: l => by
    show aevT ρ (ains t.1 t.2 (aaddT l m)) = t.2 * ρ t.1 + aevT ρ l + aevT ρ m
    rw [aev_ins, aev_addT]
    omega
def aadd (l m : aL) : aL := (l.1 + m.1, aaddT l.2 m.2)
theorem aev_add {ρ : Nat → Int} {l m : aL} : aev ρ (aadd l m) = aev ρ l + aev ρ m := by
  show l.1 + m.1 + aevT ρ (aaddT l.2 m.2) = l.1 + aevT ρ l.2 + (m.1 + aevT ρ m.2)
  rw [aev_addT]
  omega
def amulT (c : Int) : List (Nat × Int) → List (Nat × Int)
  | [] => []
  | t :: l => (t.1, c * t.2) :: amulT c l
theorem aev_mulT {ρ : Nat → Int} {c : Int} : ∀ {l : List (Nat × Int)}, aevT ρ (amulT c l) = c * aevT ρ l
  | [] => (Int.mul_zero c).symm
  | t :: l => by
    show c * t.2 * ρ t.1 + aevT ρ (amulT c l) = c * (t.2 * ρ t.1 + aevT ρ l)
    rw [aev_mulT, Int.mul_add, Int.mul_assoc]
def amul (c : Int) (l : aL) : aL := bif ieqb c 0 then (0, []) else (c * l.1, amulT c l.2)
theorem aev_mul {ρ : Nat → Int} {c : Int} {l : aL} : aev ρ (amul c l) = c * aev ρ l := by
  unfold amul
  cases h : ieqb c 0 with
  | true =>
    rw [ieqb_iff] at h
    subst h
    show (0 : Int) + 0 = 0 * _
    omega
  | false =>
    show c * l.1 + aevT ρ (amulT c l.2) = c * (l.1 + aevT ρ l.2)
    rw [aev_mulT, Int.mul_add]
def asub (l m : aL) : aL := (l.1 - m.1, aaddT l.2 (amulT (-1) m.2))
theorem aev_sub {ρ : Nat → Int} {l m : aL} : aev ρ (asub l m) = aev ρ l - aev ρ m := by
  show l.1 - m.1 + aevT ρ (aaddT l.2 (amulT (-1) m.2)) = l.1 + aevT ρ l.2 - (m.1 + aevT ρ m.2)
  rw [aev_addT, aev_mulT]
  omega
def aco (c : Int) : aL := (c, [])
theorem aev_co {ρ : Nat → Int} {c : Int} : aev ρ (aco c) = c := Int.add_zero c
theorem aev_pair {ρ : Nat → Int} {c : Int} : aev ρ (c, []) = c := Int.add_zero c
def aid (k : Nat) : aL := (0, [(k, 1)])
theorem aev_id {ρ : Nat → Int} {k : Nat} : aev ρ (aid k) = ρ k := by
  show (0 : Int) + (1 * ρ k + 0) = ρ k
  omega
def asgl (t : Nat × Int) : aL := (0, [t])
theorem aev_sgl {ρ : Nat → Int} {t : Nat × Int} : aev ρ (asgl t) = t.2 * ρ t.1 := by
  show (0 : Int) + (t.2 * ρ t.1 + 0) = t.2 * ρ t.1
  omega
def aeqT : List (Nat × Int) → List (Nat × Int) → Bool
  | [], [] => true
  | t :: l, s :: m => Nat.beq t.1 s.1 && ieqb t.2 s.2 && aeqT l m
  | _, _ => false
theorem aeqT_of : ∀ {l m : List (Nat × Int)}, aeqT l m = true → l = m
  | [], [], _ => rfl
  | (k, a) :: l, (k', a') :: m, h => by
    unfold aeqT at h
    rw [Bool.and_eq_true, Bool.and_eq_true, ieqb_iff] at h
    rw [aeqT_of h.2, show k = k' from Nat.eq_of_beq_eq_true h.1.1, show a = a' from h.1.2]
  | [], _ :: _, h => by cases h
  | _ :: _, [], h => by cases h
def aeql (l m : aL) : Bool := ieqb l.1 m.1 && aeqT l.2 m.2
theorem aeql_of {l m : aL} (h : aeql l m = true) : l = m := by
  unfold aeql at h
  rw [Bool.and_eq_true, ieqb_iff] at h
  exact Prod.ext h.1 (aeqT_of h.2)
-- ---- bounds
def aok (ρ : Nat → Int) (E : aE) : Prop := ∀ t ∈ E, t.2.1 ≤ ρ t.1 ∧ ρ t.1 ≤ t.2.2
def afk (ρ : Nat → Int) (F : List aL) : Prop := ∀ f ∈ F, aev ρ f ≤ 0
def alk : aE → Nat → Option (Int × Int)
  | [], _ => none
  | t :: l, k => bif Nat.beq t.1 k then some t.2 else alk l k
theorem alk_of {ρ : Nat → Int} {k : Nat} {q : Int × Int} : ∀ {E : aE}, aok ρ E → alk E k = some q → q.1 ≤ ρ k ∧ ρ k ≤ q.2
  | [], _, h => by cases h
  | t :: l, hE, h => by
    unfold alk at h
    cases e : Nat.beq t.1 k with
    | true =>
      rw [e] at h
      cases h
      have := hE t (List.mem_cons_self ..)
      rw [Nat.eq_of_beq_eq_true e] at this
      exact this
    | false =>
      rw [e] at h
      exact alk_of (fun s hs => hE s (List.mem_cons_of_mem _ hs)) h
def ahiT (E : aE) : List (Nat × Int) → Option Int
  | [] => some 0
  | t :: l => match alk E t.1 with
    | none => none
    | some q => match ahiT E l with
      | none => none
      | some h => some (h + t.2 * (bif ileb 0 t.2 then q.2 else q.1))
theorem ahiT_of {ρ : Nat → Int} {E : aE} (hE : aok ρ E) : ∀ {l : List (Nat × Int)} {h : Int}, ahiT E l = some h → aevT ρ l ≤ h
  | [], h, e => by
    cases e
    exact Int.le_refl 0
  | t :: l, h, e => by
    unfold ahiT at e
    split at e
    · cases e
    · rename_i q hq
      split at e
      · cases e
      · rename_i h' he
        cases e
        have i1 := ahiT_of hE he
        have i2 := alk_of hE hq
        show t.2 * ρ t.1 + aevT ρ l ≤ _
        cases c : ileb 0 t.2 with
        | true =>
          rw [ileb_iff] at c
          have := Int.mul_le_mul_of_nonneg_left i2.2 c
          show _ ≤ h' + t.2 * q.2
          omega
        | false =>
          have c : ¬ 0 ≤ t.2 := fun z => by rw [ileb_iff.mpr z] at c; cases c
          have := Int.mul_le_mul_of_nonpos_left (show t.2 ≤ 0 by omega) i2.1
          show _ ≤ h' + t.2 * q.1
          omega
def ahi (E : aE) (l : aL) : Option Int := match ahiT E l.2 with
  | none => none
  | some h => some (l.1 + h)
theorem ahi_of {ρ : Nat → Int} {E : aE} (hE : aok ρ E) {l : aL} {h : Int} (e : ahi E l = some h) : aev ρ l ≤ h := by
  unfold ahi at e
  split at e
  · cases e
  · rename_i h' he
    cases e
    have := ahiT_of hE he
    show l.1 + aevT ρ l.2 ≤ l.1 + h'
    omega
def apr0 (E : aE) (l : aL) : Bool := match ahi E l with
  | some h => ileb h 0
  | none => false
theorem apr0_of {ρ : Nat → Int} {E : aE} (hE : aok ρ E) {l : aL} (e : apr0 E l = true) : aev ρ l ≤ 0 := by
  unfold apr0 at e
  split at e
  · rename_i h he
    rw [ileb_iff] at e
    have := ahi_of hE he
    omega
  · cases e
/-- it is at most 0 -/
def apr (E : aE) (F : List aL) (l : aL) : Bool := apr0 E l || F.any (fun f => apr0 E (asub l f))
theorem apr_of {ρ : Nat → Int} {E : aE} {F : List aL} (hE : aok ρ E) (hF : afk ρ F) {l : aL} (e : apr E F l = true) : aev ρ l ≤ 0 := by
  unfold apr at e
  rw [Bool.or_eq_true] at e
  rcases e with e | e
  · exact apr0_of hE e
  · obtain ⟨f, hf, e⟩ := List.any_eq_true.mp e
    have h1 := apr0_of hE e
    have h2 := hF f hf
    rw [aev_sub] at h1
    omega
-- ---- what a fact says of its ids
def arf1 (E : aE) (l : aL) (t : Nat × Int) : aE := match alk E t.1, ahi E (asub (asgl t) l) with
  | some q, some h => bif ieqb t.2 1 then (bif ileb q.2 h then E else (t.1, q.1, h) :: E) else bif ieqb t.2 (-1) then (bif ileb (-h) q.1 then E else (t.1, -h, q.2) :: E) else E
  | _, _ => E
theorem aok_cons {ρ : Nat → Int} {E : aE} (hE : aok ρ E) {t : Nat × Int × Int} (h1 : t.2.1 ≤ ρ t.1) (h2 : ρ t.1 ≤ t.2.2) : aok ρ (t :: E) := by
  intro s hs
  rcases List.mem_cons.mp hs with e | e
  · subst e
    exact ⟨h1, h2⟩
  · exact hE s e
theorem arf1_of {ρ : Nat → Int} {E : aE} (hE : aok ρ E) {l : aL} {t : Nat × Int} (hl : aev ρ l ≤ 0) : aok ρ (arf1 E l t) := by
  unfold arf1
  split
  · rename_i q h hq hh
    have i1 := alk_of hE hq
    have i2 := ahi_of hE hh
    rw [aev_sub, aev_sgl] at i2
    cases c1 : ieqb t.2 1 with
    | true =>
      rw [ieqb_iff] at c1
      rw [c1] at i2
      cases c2 : ileb q.2 h with
      | true => exact hE
      | false => exact aok_cons hE i1.1 (by show ρ t.1 ≤ h; omega)
    | false =>
      cases c2 : ieqb t.2 (-1) with
      | true =>
        rw [ieqb_iff] at c2
        rw [c2] at i2
        cases c3 : ileb (-h) q.1 with
        | true => exact hE
        | false => exact aok_cons hE (by show -h ≤ ρ t.1; omega) i1.2
      | false => exact hE
  · exact hE
def arf (l : aL) : List (Nat × Int) → aE → aE
  | [], E => E
  | t :: m, E => arf l m (arf1 E l t)
theorem arf_of {ρ : Nat → Int} {l : aL} (hl : aev ρ l ≤ 0) : ∀ {m : List (Nat × Int)} {E : aE}, aok ρ E → aok ρ (arf l m E)
  | [], _, hE => hE
  | t :: _, E, hE => arf_of (E := arf1 E l t) hl (arf1_of hE hl)
def akeep (l : aL) (F : List aL) : List aL := match l.2 with
  | [] => F
  | [t] => bif ieqb t.2 1 || ieqb t.2 (-1) then F else l :: F
  | _ => l :: F
abbrev aEF : Type := aE × List aL
/-- take it that l is at most 0: none if it can't be -/
def aass (E : aE) (F : List aL) (l : aL) : Option aEF := bif apr E F (asub (aco 1) l) then none else some (arf l l.2 E, akeep l F)
def aEFok (ρ : Nat → Int) (q : aEF) : Prop := aok ρ q.1 ∧ afk ρ q.2
theorem aass_of {ρ : Nat → Int} {E : aE} {F : List aL} {l : aL} (hE : aok ρ E) (hF : afk ρ F) (hl : aev ρ l ≤ 0) : ∃ q, aass E F l = some q ∧ aEFok ρ q := by
  unfold aass
  cases c : apr E F (asub (aco 1) l) with
  | true =>
    have := apr_of hE hF c
    rw [aev_sub, aev_co] at this
    omega
  | false =>
    refine ⟨_, rfl, arf_of hl hE, ?_⟩
    have hc : afk ρ (l :: F) := by
      intro f hf
      rcases List.mem_cons.mp hf with e | e
      · rw [e]; exact hl
      · exact hF f e
    show afk ρ (akeep l F)
    unfold akeep
    split
    · exact hF
    · cases ieqb _ 1 || ieqb _ (-1) with
      | true => exact hF
      | false => exact hc
    · exact hc
theorem aass_all {P : (Nat → Int) → Prop} {ρ : Nat → Int} (h0 : P ρ) {E : aE} {F : List aL} {l : aL} (hE : ∀ ρ', P ρ' → aok ρ' E ∧ afk ρ' F ∧ aev ρ' l ≤ 0) : ∃ q, aass E F l = some q ∧ ∀ ρ', P ρ' → aEFok ρ' q := by
  obtain ⟨q, e, -⟩ := aass_of (hE ρ h0).1 (hE ρ h0).2.1 (hE ρ h0).2.2
  refine ⟨q, e, fun ρ' h => ?_⟩
  obtain ⟨q', e', hq⟩ := aass_of (hE ρ' h).1 (hE ρ' h).2.1 (hE ρ' h).2.2
  rw [e] at e'
  cases e'
  exact hq
def aeqR (E : aE) (F : List aL) (l1 l2 : aL) : Option aEF := match aass E F (asub l1 l2) with
  | none => none
  | some q => aass q.1 q.2 (asub l2 l1)
def aneR (E : aE) (F : List aL) (l1 l2 : aL) : Option aEF := bif apr E F (asub l1 l2) then aass E F (aadd (aco 1) (asub l1 l2)) else bif apr E F (asub l2 l1) then aass E F (aadd (aco 1) (asub l2 l1)) else some (E, F)
def altR (E : aE) (F : List aL) (l1 l2 : aL) : Option aEF := aass E F (aadd (aco 1) (asub l1 l2))
def aleR (E : aE) (F : List aL) (l1 l2 : aL) : Option aEF := aass E F (asub l1 l2)
def acmp (op : Jvm.ClassFile.Cond) (E : aE) (F : List aL) (x y : aL) : Option aEF × Option aEF := match op with
  | .eq => (aeqR E F x y, aneR E F x y)
  | .ne => (aneR E F x y, aeqR E F x y)
  | .lt => (altR E F x y, aleR E F y x)
  | .ge => (aleR E F y x, altR E F x y)
  | .gt => (altR E F y x, aleR E F x y)
  | .le => (aleR E F x y, altR E F y x)
section ACM
variable {P : (Nat → Int) → Prop} {ρ : Nat → Int} {E : aE} {F : List aL} {l1 l2 : aL}
theorem aeqR_all (h0 : P ρ) (hE : ∀ ρ', P ρ' → aok ρ' E ∧ afk ρ' F) (hl : ∀ ρ', P ρ' → aev ρ' l1 = aev ρ' l2) : ∃ q, aeqR E F l1 l2 = some q ∧ ∀ ρ', P ρ' → aEFok ρ' q := by
  obtain ⟨q, e, hq⟩ := aass_all (l := asub l1 l2) h0 (fun ρ' h => ⟨(hE ρ' h).1, (hE ρ' h).2, by rw [aev_sub, hl ρ' h]; omega⟩)
  obtain ⟨q2, e2, hq2⟩ := aass_all (l := asub l2 l1) h0 (fun ρ' h => ⟨(hq ρ' h).1, (hq ρ' h).2, by rw [aev_sub, hl ρ' h]; omega⟩)
  exact ⟨q2, by unfold aeqR; rw [e]; exact e2, hq2⟩
theorem altR_all (h0 : P ρ) (hE : ∀ ρ', P ρ' → aok ρ' E ∧ afk ρ' F) (hl : ∀ ρ', P ρ' → aev ρ' l1 < aev ρ' l2) : ∃ q, altR E F l1 l2 = some q ∧ ∀ ρ', P ρ' → aEFok ρ' q :=
  aass_all h0 (fun ρ' h => ⟨(hE ρ' h).1, (hE ρ' h).2, by have := hl ρ' h; rw [aev_add, aev_co, aev_sub]; omega⟩)
theorem aleR_all (h0 : P ρ) (hE : ∀ ρ', P ρ' → aok ρ' E ∧ afk ρ' F) (hl : ∀ ρ', P ρ' → aev ρ' l1 ≤ aev ρ' l2) : ∃ q, aleR E F l1 l2 = some q ∧ ∀ ρ', P ρ' → aEFok ρ' q :=
  aass_all h0 (fun ρ' h => ⟨(hE ρ' h).1, (hE ρ' h).2, by have := hl ρ' h; rw [aev_sub]; omega⟩)
theorem aneR_all (h0 : P ρ) (hE : ∀ ρ', P ρ' → aok ρ' E ∧ afk ρ' F) (hl : ∀ ρ', P ρ' → aev ρ' l1 ≠ aev ρ' l2) : ∃ q, aneR E F l1 l2 = some q ∧ ∀ ρ', P ρ' → aEFok ρ' q := by
  unfold aneR
  cases c1 : apr E F (asub l1 l2) with
  | true => exact altR_all h0 hE (fun ρ' h => by have i1 := apr_of (hE ρ' h).1 (hE ρ' h).2 c1; have := hl ρ' h; rw [aev_sub] at i1; omega)
  | false =>
    cases c2 : apr E F (asub l2 l1) with
    | true => exact altR_all h0 hE (fun ρ' h => by have i1 := apr_of (hE ρ' h).1 (hE ρ' h).2 c2; have := hl ρ' h; rw [aev_sub] at i1; omega)
    | false => exact ⟨_, rfl, hE⟩
theorem acmp_all {op : Jvm.ClassFile.Cond} {u u' : Int} {t f : Nat} {x y : Int32} (hx : ∀ c : Jvm.ClassFile.Cond, xcmp c x y t f = xcmp c (Int32.ofInt (if u < u' then -1 else if u = u' then 0 else 1)) 0 t f) (h0 : P ρ) (hE : ∀ ρ', P ρ' → aok ρ' E ∧ afk ρ' F) (h1 : ∀ ρ', P ρ' → u = aev ρ' l1) (h2 : ∀ ρ', P ρ' → u' = aev ρ' l2) :
    (xcmp op x y t f = t ∧ ∃ q, (acmp op E F l1 l2).1 = some q ∧ ∀ ρ', P ρ' → aEFok ρ' q) ∨ (xcmp op x y t f = f ∧ ∃ q, (acmp op E F l1 l2).2 = some q ∧ ∀ ρ', P ρ' → aEFok ρ' q) := by
  have i1 := h1 ρ h0
  have i2 := h2 ρ h0
  rw [hx op]
  rcases Int.lt_trichotomy u u' with c | c | c
  · have L := altR_all (l1 := l1) (l2 := l2) h0 hE (fun ρ' h => by rw [← h1 ρ' h, ← h2 ρ' h]; exact c)
    have M := aleR_all (l1 := l1) (l2 := l2) h0 hE (fun ρ' h => by rw [← h1 ρ' h, ← h2 ρ' h]; omega)
    have N := aneR_all (l1 := l1) (l2 := l2) h0 hE (fun ρ' h => by rw [← h1 ρ' h, ← h2 ρ' h]; omega)
    rw [if_pos c]
    cases op with
    | eq => exact Or.inr ⟨rfl, N⟩
    | ne => exact Or.inl ⟨rfl, N⟩
    | lt => exact Or.inl ⟨rfl, L⟩
    | ge => exact Or.inr ⟨rfl, L⟩
    | gt => exact Or.inr ⟨rfl, M⟩
    | le => exact Or.inl ⟨rfl, M⟩
  · have L := aleR_all (l1 := l1) (l2 := l2) h0 hE (fun ρ' h => by rw [← h1 ρ' h, ← h2 ρ' h]; omega)
    have M := aleR_all (l1 := l2) (l2 := l1) h0 hE (fun ρ' h => by rw [← h1 ρ' h, ← h2 ρ' h]; omega)
    have N := aeqR_all (l1 := l1) (l2 := l2) h0 hE (fun ρ' h => by rw [← h1 ρ' h, ← h2 ρ' h]; omega)
    rw [if_neg (by omega), if_pos c]
    cases op with
    | eq => exact Or.inl ⟨rfl, N⟩
    | ne => exact Or.inr ⟨rfl, N⟩
    | lt => exact Or.inr ⟨rfl, M⟩
    | ge => exact Or.inl ⟨rfl, M⟩
    | gt => exact Or.inr ⟨rfl, L⟩
    | le => exact Or.inl ⟨rfl, L⟩
  · have L := altR_all (l1 := l2) (l2 := l1) h0 hE (fun ρ' h => by rw [← h1 ρ' h, ← h2 ρ' h]; omega)
    have M := aleR_all (l1 := l2) (l2 := l1) h0 hE (fun ρ' h => by rw [← h1 ρ' h, ← h2 ρ' h]; omega)
    have N := aneR_all (l1 := l1) (l2 := l2) h0 hE (fun ρ' h => by rw [← h1 ρ' h, ← h2 ρ' h]; omega)
    rw [if_neg (by omega), if_neg (by omega)]
    cases op with
    | eq => exact Or.inr ⟨rfl, N⟩
    | ne => exact Or.inl ⟨rfl, N⟩
    | lt => exact Or.inr ⟨rfl, M⟩
    | ge => exact Or.inl ⟨rfl, M⟩
    | gt => exact Or.inl ⟨rfl, L⟩
    | le => exact Or.inr ⟨rfl, L⟩
end ACM
theorem xcmp_int {x y : Int32} {t f : Nat} (c : Jvm.ClassFile.Cond) : xcmp c x y t f = xcmp c (Int32.ofInt (if x.toInt < y.toInt then -1 else if x.toInt = y.toInt then 0 else 1)) 0 t f := by
  have e1 : (Int32.ofInt (-1) = (0 : Int32)) = False := by decide
  have e2 : (Int32.ofInt (-1) < (0 : Int32)) = True := by decide
  have e3 : ((0 : Int32) ≤ Int32.ofInt (-1)) = False := by decide
  have e4 : ((0 : Int32) < Int32.ofInt (-1)) = False := by decide
  have e5 : (Int32.ofInt (-1) ≤ (0 : Int32)) = True := by decide
  have f1 : (Int32.ofInt 1 = (0 : Int32)) = False := by decide
  have f2 : (Int32.ofInt 1 < (0 : Int32)) = False := by decide
  have f3 : ((0 : Int32) ≤ Int32.ofInt 1) = True := by decide
  have f4 : ((0 : Int32) < Int32.ofInt 1) = True := by decide
  have f5 : (Int32.ofInt 1 ≤ (0 : Int32)) = False := by decide
  have g1 : (Int32.ofInt 0 = (0 : Int32)) = True := by decide
  have g2 : (Int32.ofInt 0 < (0 : Int32)) = False := by decide
  have g3 : ((0 : Int32) ≤ Int32.ofInt 0) = True := by decide
  have g4 : ((0 : Int32) < Int32.ofInt 0) = False := by decide
  have g5 : (Int32.ofInt 0 ≤ (0 : Int32)) = True := by decide
  rcases Int.lt_trichotomy x.toInt y.toInt with h | h | h
  · rw [if_pos h]
    have k1 : ¬ x = y := fun q => by rw [q] at h; omega
    cases c <;> simp only [xcmp, e1, e2, e3, e4, e5, if_true, if_false, k1, Int32.lt_iff_toInt_lt, Int32.le_iff_toInt_le] <;> first | rw [if_pos (by omega)] | rw [if_neg (by omega)]
  · rw [if_neg (by omega), if_pos h]
    have k1 : x = y := Int32.toInt_inj.mp h
    subst k1
    cases c <;> simp only [xcmp, g1, g2, g3, g4, g5, if_true, if_false, Int32.lt_iff_toInt_lt, Int32.le_iff_toInt_le] <;> first | rw [if_pos (by omega)] | rw [if_neg (by omega)]
  · rw [if_neg (by omega), if_neg (by omega)]
    have k1 : ¬ x = y := fun q => by rw [q] at h; omega
    cases c <;> simp only [xcmp, f1, f2, f3, f4, f5, if_true, if_false, k1, Int32.lt_iff_toInt_lt, Int32.le_iff_toInt_le] <;> first | rw [if_pos (by omega)] | rw [if_neg (by omega)]
theorem xcmp_lg {u v : Int64} {t f : Nat} (c : Jvm.ClassFile.Cond) : xcmp c (lg_cmp u v) 0 t f = xcmp c (Int32.ofInt (if u.toInt < v.toInt then -1 else if u.toInt = v.toInt then 0 else 1)) 0 t f := by
  unfold lg_cmp
  simp only [gt_iff_lt, Int64.lt_iff_toInt_lt, ← Int64.toInt_inj]
  rcases Int.lt_trichotomy u.toInt v.toInt with h | h | h
  · rw [if_neg (by omega), if_neg (by omega), if_pos h]; rfl
  · rw [if_neg (by omega), if_pos h, if_neg (by omega), if_pos h]; rfl
  · rw [if_pos h, if_neg (by omega), if_neg (by omega)]; rfl
