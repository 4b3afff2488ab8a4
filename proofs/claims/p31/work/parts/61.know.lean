/-! WHAT IS KNOWN: ids (how many), bounds, facts, cells that were read or written, operations, pending cells of paired rows -/
abbrev aV : Type := aL ⊕ (Option aL ⊕ (Nat ⊕ (aL × aL)))
abbrev aC : Type := List ((Nat × aL) × aL)
abbrev aU : Type := List ((Nat × aL × aL) × aL)
abbrev aD : Type := List (Nat × aL)
abbrev aKn : Type := Nat × aE × List aL × aC × aU × aD × aD
abbrev aT : Type := Nat × List (Option aV) × List aV × aKn
def aval (ρ : Nat → Int) (a : aV) (v : Value) : Prop := match a, v with
  | .inl l, .int x => x.toInt = aev ρ l
  | .inr (.inl (some l)), .long u => u.toInt = aev ρ l
  | .inr (.inl none), .long _ => True
  | .inr (.inr (.inl p)), .ref q => q = p
  | .inr (.inr (.inr c)), .int x => ∃ u1 u2 : Int64, x = lg_cmp u1 u2 ∧ u1.toInt = aev ρ c.1 ∧ u2.toInt = aev ρ c.2
  | _, _ => False
def alo1 (ρ : Nat → Int) : Option aV → Option Value → Prop
  | some a, some v => aval ρ a v
  | none, none => True
  | none, some v => v.category = 1
  | _, _ => False
def aloc (ρ : Nat → Int) : List (Option aV) → List (Option Value) → Prop
  | [], [] => True
  | a :: l, v :: m => alo1 ρ a v ∧ aloc ρ l m
  | _, _ => False
def astk (ρ : Nat → Int) : List aV → List Value → Prop
  | [], [] => True
  | a :: l, v :: m => aval ρ a v ∧ astk ρ l m
  | _, _ => False
theorem aval_int {ρ : Nat → Int} {l : aL} {v : Value} (h : aval ρ (.inl l) v) : ∃ x, v = .int x := by
  cases v with
  | int x => exact ⟨x, rfl⟩
  | _ => exact h.elim
theorem aval_long {ρ : Nat → Int} {o : Option aL} {v : Value} (h : aval ρ (.inr (.inl o)) v) : ∃ x, v = .long x := by
  cases v with
  | long x => exact ⟨x, rfl⟩
  | _ => cases o <;> exact h.elim
theorem aval_ref {ρ : Nat → Int} {p : Nat} {v : Value} (h : aval ρ (.inr (.inr (.inl p))) v) : v = .ref p := by
  cases v with
  | ref x => exact congrArg _ h
  | _ => exact h.elim
theorem aval_cmp {ρ : Nat → Int} {c : aL × aL} {v : Value} (h : aval ρ (.inr (.inr (.inr c))) v) : ∃ x, v = .int x := by
  cases v with
  | int x => exact ⟨x, rfl⟩
  | _ => exact h.elim
theorem astk_cons {ρ : Nat → Int} {a : aV} {l : List aV} {c : List Value} (h : astk ρ (a :: l) c) : ∃ v m, c = v :: m := by
  cases c with
  | nil => exact h.elim
  | cons v m => exact ⟨v, m, rfl⟩
/-- not a long -/
def ac1 : aV → Bool
  | .inr (.inl _) => false
  | _ => true
theorem ac1_of {ρ : Nat → Int} {a : aV} {v : Value} (h : aval ρ a v) (h1 : ac1 a = true) : v.category = 1 := by
  match a, v, h with
  | .inl _, .int _, _ => rfl
  | .inr (.inl (some _)), _, _ => cases h1
  | .inr (.inl none), _, _ => cases h1
  | .inr (.inr (.inl _)), .ref _, _ => rfl
  | .inr (.inr (.inr _)), .int _, _ => rfl
def acat : List aV → Nat
  | [] => 0
  | a :: l => (bif ac1 a then 1 else 2) + acat l
theorem acat_of {ρ : Nat → Int} : ∀ {l : List aV} {m : List Value}, astk ρ l m → (m.map fun v => v.category).sum = acat l
  | [], [], _ => rfl
  | a :: l, v :: m, h => by
    have i := acat_of h.2
    rw [List.map_cons, List.sum_cons, i]
    show v.category + acat l = (bif ac1 a then 1 else 2) + acat l
    cases c : ac1 a with
    | true => rw [ac1_of h.1 c]; rfl
    | false =>
      match a, c with
      | .inr (.inl o), _ =>
        obtain ⟨x, e⟩ := aval_long h.1
        subst e
        rfl
theorem xcat_of {ρ : Nat → Int} {l : List aV} {m : List Value} (h : astk ρ l m) (hc : Nat.ble (acat l) 8 = true) : xcat m = true := by
  unfold xcat
  rw [acat_of h]
  exact hc
theorem aloc_get {ρ : Nat → Int} {a : aV} : ∀ {l : List (Option aV)} {m : List (Option Value)} {i : Nat}, aloc ρ l m → l[i]? = some (some a) → ∃ v, m[i]? = some (some v) ∧ aval ρ a v
  | b :: l, v :: m, 0, h, e => by
    cases e
    match v, h with
    | some v, h => exact ⟨v, rfl, h.1⟩
    | none, h => exact h.1.elim
  | b :: l, v :: m, i + 1, h, e => by
    rw [List.getElem?_cons_succ] at e ⊢
    exact aloc_get h.2 e
theorem aloc_len {ρ : Nat → Int} : ∀ {l : List (Option aV)} {m : List (Option Value)}, aloc ρ l m → m.length = l.length
  | [], [], _ => rfl
  | b :: l, v :: m, h => congrArg (· + 1) (aloc_len h.2)
theorem aloc_set {ρ : Nat → Int} {a : aV} {w : Value} (hw : aval ρ a w) : ∀ {l : List (Option aV)} {m : List (Option Value)} {i : Nat}, aloc ρ l m → aloc ρ (l.set i (some a)) (m.set i (some w))
  | [], [], _, _ => trivial
  | b :: l, v :: m, 0, h => ⟨hw, h.2⟩
  | b :: l, v :: m, i + 1, h => ⟨h.1, aloc_set hw h.2⟩
def axok (pl : List (Option aV)) (i : Nat) : Bool := Nat.ble (i + 1) pl.length && (match i with
  | 0 => true
  | j + 1 => match pl[j]? with
    | some (some w) => ac1 w
    | _ => true)
theorem aloc_at {ρ : Nat → Int} : ∀ {l : List (Option aV)} {m : List (Option Value)} {i : Nat} {w : Value}, aloc ρ l m → m[i]? = some (some w) → ∃ b, l[i]? = some b ∧ alo1 ρ b (some w)
  | [], [], _, _, _, e => by cases e
  | b :: l, v :: m, 0, w, h, e => by
    cases e
    exact ⟨b, rfl, h.1⟩
  | b :: l, v :: m, i + 1, w, h, e => by
    rw [List.getElem?_cons_succ] at e ⊢
    exact aloc_at h.2 e
theorem axok_of {ρ : Nat → Int} {l : List (Option aV)} {m : List (Option Value)} {i : Nat} (h : aloc ρ l m) (hx : axok l i = true) : xok1 m i = true := by
  unfold axok at hx
  unfold xok1
  rw [Bool.and_eq_true] at hx ⊢
  refine ⟨by rw [aloc_len h]; exact hx.1, ?_⟩
  match i, hx with
  | 0, _ => rfl
  | j + 1, hx =>
    have hx2 := hx.2
    show (match m[j]? with
      | some (some w) => Nat.beq w.category 1
      | _ => true) = true
    split
    · rename_i w e
      obtain ⟨b, e1, e2⟩ := aloc_at h e
      have hx2 : (match l[j]? with
        | some (some w) => ac1 w
        | _ => true) = true := hx2
      rw [e1] at hx2
      match b, e2, hx2 with
      | some a, e2, hx2 => rw [ac1_of e2 hx2]; rfl
      | none, e2, _ => rw [show w.category = 1 from e2]; rfl
    · rfl
-- ---- operations
def aopf : Nat → Int32 → Int32 → Int32
  | 0 => fun x y => x * y
  | 1 => fun x y => x &&& y
  | 2 => fun x y => x ||| y
  | 3 => fun x y => x ^^^ y
  | 4 => fun x y => x <<< (y &&& 31)
  | 5 => fun x y => x >>> (y &&& 31)
  | 6 => fun x y => (x.toUInt32 >>> (y.toUInt32 &&& Int32.toUInt32 31)).toInt32
  | 7 => fun x y => x / y
  | _ => fun x y => x - x / y * y
def aun1 (xs : Nat → Int32) (ρ : Nat → Int) (q : (Nat × aL × aL) × aL) : Prop := if q.1.1 = 20 then 0 ≤ aev ρ q.1.2.1 ∧ (xs (aev ρ q.1.2.1).toNat).toInt = aev ρ q.2 else if q.1.1 = 21 then aev ρ q.1.2.1 ≠ aev ρ q.1.2.2 else ∀ x y : Int32, x.toInt = aev ρ q.1.2.1 → y.toInt = aev ρ q.1.2.2 → (aopf q.1.1 x y).toInt = aev ρ q.2
def aun (xs : Nat → Int32) (ρ : Nat → Int) (U : aU) : Prop := ∀ q ∈ U, aun1 xs ρ q
def acc (ρ : Nat → Int) (C : aC) (M : xM) : Prop := ∀ q ∈ C, 0 ≤ aev ρ q.1.2 ∧ (M q.1.1 (aev ρ q.1.2).toNat).toInt = aev ρ q.2
def apd (prs : List (Nat × Nat)) (ρ : Nat → Int) (D : aD) (M : xM) : Prop := ∀ (j : Nat) (pr : Nat × Nat), prs[j]? = some pr → ∀ i : Nat, M pr.1 i = M pr.2 i ∨ ∃ d ∈ D, d.1 = j ∧ aev ρ d.2 = (i : Int)
/-- rows of two places that hold at each index: where the first's number lies in A, the second's (c = 0), or its rest by c, lies in B -/
abbrev aRw : Type := Nat × (Int × Int) × Nat × Int × (Int × Int)
def arwv (c : Int) (x : Int32) : Int := if c = 0 then x.toInt else (aopf 8 x (Int32.ofInt c)).toInt
def acnd1 (r : aRw) (M : xM) (i : Nat) : Prop := r.2.1.1 ≤ (M r.1 i).toInt → (M r.1 i).toInt ≤ r.2.1.2 → r.2.2.2.2.1 ≤ arwv r.2.2.2.1 (M r.2.2.1 i) ∧ arwv r.2.2.2.1 (M r.2.2.1 i) ≤ r.2.2.2.2.2
def acn (rws : List aRw) (ρ : Nat → Int) (G : aD) (M : xM) : Prop := ∀ (j : Nat) (r : aRw), rws[j]? = some r → ∀ i : Nat, acnd1 r M i ∨ ∃ d ∈ G, d.1 = j ∧ aev ρ d.2 = (i : Int)
def agr (n : Nat) (ρ ρ' : Nat → Int) : Prop := ∀ k, k < n → ρ' k = ρ k
theorem agr_refl (n : Nat) (ρ : Nat → Int) : agr n ρ ρ := fun _ _ => rfl
theorem agr_trans {n n' : Nat} {ρ ρ' ρ'' : Nat → Int} (hn : n ≤ n') (h1 : agr n ρ ρ') (h2 : agr n' ρ' ρ'') : agr n ρ ρ'' := fun k hk => (h2 k (Nat.lt_of_lt_of_le hk hn)).trans (h1 k hk)
def apush (ρ : Nat → Int) (n : Nat) (z : Int) : Nat → Int := fun k => if k = n then z else ρ k
theorem apush_agr {ρ : Nat → Int} {n : Nat} {z : Int} : agr n ρ (apush ρ n z) := fun k hk => if_neg (by omega)
theorem apush_self {ρ : Nat → Int} {n : Nat} {z : Int} : apush ρ n z n = z := if_pos rfl
/-- what is known holds -/
def aKok (xs : Nat → Int32) (L : Nat) (prs : List (Nat × Nat)) (rws : List aRw) (ρ : Nat → Int) (K : aKn) (M : xM) : Prop := 0 < K.1 ∧ ρ 0 = (L : Int) ∧ aok ρ K.2.1 ∧ afk ρ K.2.2.1 ∧ acc ρ K.2.2.2.1 M ∧ aun xs ρ K.2.2.2.2.1 ∧ apd prs ρ K.2.2.2.2.2.1 M ∧ acn rws ρ K.2.2.2.2.2.2 M
-- ---- cells
def acl : aC → Nat → aL → Option aL
  | [], _, _ => none
  | q :: C, p, l => bif Nat.beq q.1.1 p && aeql q.1.2 l then some q.2 else acl C p l
theorem acl_of {p : Nat} {l v : aL} : ∀ {C : aC}, acl C p l = some v → ((p, l), v) ∈ C
  | [], h => by cases h
  | q :: C, h => by
    unfold acl at h
    cases c : Nat.beq q.1.1 p && aeql q.1.2 l with
    | true =>
      rw [c] at h
      rw [Bool.and_eq_true] at c
      cases h
      rw [← Nat.eq_of_beq_eq_true c.1, ← aeql_of c.2]
      exact List.mem_cons_self ..
    | false =>
      rw [c] at h
      exact List.mem_cons_of_mem _ (acl_of h)
theorem acc_cons {ρ : Nat → Int} {C : aC} {M : xM} (h : acc ρ C M) {p : Nat} {l v : aL} (h1 : 0 ≤ aev ρ l) (h2 : (M p (aev ρ l).toNat).toInt = aev ρ v) : acc ρ (((p, l), v) :: C) M := by
  intro q hq
  rcases List.mem_cons.mp hq with e | e
  · subst e
    exact ⟨h1, h2⟩
  · exact h q e
/-- partners of a place -/
def apts (prs : List (Nat × Nat)) (p : Nat) : List Nat := prs.filterMap (fun pr => bif Nat.beq pr.1 p then some pr.2 else bif Nat.beq pr.2 p then some pr.1 else none)
theorem apts_of {prs : List (Nat × Nat)} {p p' : Nat} {ρ : Nat → Int} {M : xM} (h : apd prs ρ [] M) (hp : p' ∈ apts prs p) (i : Nat) : M p' i = M p i := by
  unfold apts at hp
  obtain ⟨pr, h1, h2⟩ := List.mem_filterMap.mp hp
  obtain ⟨j, hj⟩ := List.mem_iff_getElem?.mp h1
  have hi := h j pr hj i
  have hi : M pr.1 i = M pr.2 i := by
    rcases hi with e | ⟨d, hd, -⟩
    · exact e
    · cases hd
  cases c1 : Nat.beq pr.1 p with
  | true =>
    rw [c1] at h2
    cases h2
    rw [← Nat.eq_of_beq_eq_true c1]
    exact hi.symm
  | false =>
    rw [c1] at h2
    cases c2 : Nat.beq pr.2 p with
    | true =>
      rw [c2] at h2
      cases h2
      rw [← Nat.eq_of_beq_eq_true c2]
      exact hi
    | false => rw [c2] at h2; cases h2
def aclp (C : aC) (l : aL) : List Nat → Option aL
  | [] => none
  | p :: ps => match acl C p l with
    | some v => some v
    | none => aclp C l ps
theorem aclp_of {C : aC} {l v : aL} : ∀ {ps : List Nat}, aclp C l ps = some v → ∃ p ∈ ps, ((p, l), v) ∈ C
  | [], h => by cases h
  | p :: ps, h => by
    unfold aclp at h
    split at h
    · rename_i v' e
      cases h
      exact ⟨p, List.mem_cons_self .., acl_of e⟩
    · obtain ⟨p', h1, h2⟩ := aclp_of h
      exact ⟨p', List.mem_cons_of_mem _ h1, h2⟩
def appn (l v : aL) : List Nat → aC → aC
  | [], C => C
  | p :: ps, C => appn l v ps (((p, l), v) :: C)
theorem appn_of {ρ : Nat → Int} {M : xM} {l v : aL} (h1 : 0 ≤ aev ρ l) : ∀ {ps : List Nat} {C : aC}, (∀ p ∈ ps, (M p (aev ρ l).toNat).toInt = aev ρ v) → acc ρ C M → acc ρ (appn l v ps C) M
  | [], _, _, h => h
  | p :: ps, C, hp, h => appn_of (C := ((p, l), v) :: C) h1 (fun q hq => hp q (List.mem_cons_of_mem _ hq)) (acc_cons h h1 (hp p (List.mem_cons_self ..)))
/-- a cell is read -/
def ard (prs : List (Nat × Nat)) (K : aKn) (p : Nat) (l : aL) (q : Int × Int) : aL × aKn := match acl K.2.2.2.1 p l with
  | some v => (v, K)
  | none => match K.2.2.2.2.2.1 with
    | [] => (match aclp K.2.2.2.1 l (apts prs p) with
      | some v => (v, (K.1, K.2.1, K.2.2.1, ((p, l), v) :: K.2.2.2.1, K.2.2.2.2.1, [], K.2.2.2.2.2.2))
      | none => (aid K.1, (K.1 + 1, (K.1, q) :: K.2.1, K.2.2.1, appn l (aid K.1) (apts prs p) (((p, l), aid K.1) :: K.2.2.2.1), K.2.2.2.2.1, [], K.2.2.2.2.2.2)))
    | D => (aid K.1, (K.1 + 1, (K.1, q) :: K.2.1, K.2.2.1, ((p, l), aid K.1) :: K.2.2.2.1, K.2.2.2.2.1, D, K.2.2.2.2.2.2))
theorem ard_of {xs : Nat → Int32} {L : Nat} {prs : List (Nat × Nat)} {rws : List aRw} {K : aKn} {M : xM} {p i : Nat} {l : aL} {q : Int × Int} {ρ : Nat → Int} (hK : ∀ ρ', agr K.1 ρ ρ' → aKok xs L prs rws ρ' K M) (hl : ∀ ρ', agr K.1 ρ ρ' → aev ρ' l = (i : Int)) (hq : q.1 ≤ (M p i).toInt ∧ (M p i).toInt ≤ q.2) :
    ∃ ρ2, K.1 ≤ (ard prs K p l q).2.1 ∧ agr K.1 ρ ρ2 ∧ ∀ ρ', agr (ard prs K p l q).2.1 ρ2 ρ' → aKok xs L prs rws ρ' (ard prs K p l q).2 M ∧ (M p i).toInt = aev ρ' (ard prs K p l q).1 := by
  obtain ⟨n, E, F, C, U, D, G⟩ := K
  have h0 := hK ρ (agr_refl _ _)
  have hfr : ∀ (C' : aC), (∀ ρ', agr n ρ ρ' → ρ' n = (M p i).toInt → acc ρ' C' M) → ∃ ρ2, n ≤ n + 1 ∧ agr n ρ ρ2 ∧ ∀ ρ', agr (n + 1) ρ2 ρ' → aKok xs L prs rws ρ' (n + 1, (n, q) :: E, F, C', U, D, G) M ∧ (M p i).toInt = aev ρ' (aid n) := by
    intro C' hC'
    refine ⟨apush ρ n (M p i).toInt, Nat.le_succ n, apush_agr, fun ρ' hρ => ?_⟩
    have hρ0 : agr n ρ ρ' := agr_trans (Nat.le_succ n) apush_agr hρ
    have hz : ρ' n = (M p i).toInt := (hρ n (Nat.lt_succ_self n)).trans apush_self
    obtain ⟨k1, k2, k3, k4, k5, k6, k7, k8⟩ := hK ρ' hρ0
    refine ⟨⟨Nat.succ_pos n, k2, aok_cons k3 ?_ ?_, k4, hC' ρ' hρ0 hz, k6, k7, k8⟩, ?_⟩
    · show q.1 ≤ ρ' n
      rw [hz]; exact hq.1
    · show ρ' n ≤ q.2
      rw [hz]; exact hq.2
    · rw [aev_id, hz]
  unfold ard
  dsimp only
  split
  · rename_i v e
    refine ⟨ρ, Nat.le_refl _, agr_refl _ _, fun ρ' hρ => ⟨hK ρ' hρ, ?_⟩⟩
    have := ((hK ρ' hρ).2.2.2.2.1 _ (acl_of e)).2
    dsimp only at this
    rw [hl ρ' hρ, Int.toNat_natCast] at this
    exact this
  · split
    · split
      · rename_i v e
        refine ⟨ρ, Nat.le_refl _, agr_refl _ _, fun ρ' hρ => ?_⟩
        obtain ⟨p', h1, h2⟩ := aclp_of e
        obtain ⟨k1, k2, k3, k4, k5, k6, k7, k8⟩ := hK ρ' hρ
        have hv := (k5 _ h2).2
        dsimp only at hv k7
        rw [hl ρ' hρ, Int.toNat_natCast, apts_of k7 h1 i] at hv
        exact ⟨⟨k1, k2, k3, k4, acc_cons k5 (by rw [hl ρ' hρ]; exact Int.natCast_nonneg i) (by rw [hl ρ' hρ, Int.toNat_natCast]; exact hv), k6, k7, k8⟩, hv⟩
      · refine hfr _ (fun ρ' hρ hz => ?_)
        obtain ⟨k1, k2, k3, k4, k5, k6, k7, k8⟩ := hK ρ' hρ
        have hn : 0 ≤ aev ρ' l := by rw [hl ρ' hρ]; exact Int.natCast_nonneg i
        refine appn_of hn (fun p' hp' => ?_) (acc_cons k5 hn ?_)
        · rw [hl ρ' hρ, Int.toNat_natCast, aev_id, hz, apts_of k7 hp' i]
        · rw [hl ρ' hρ, Int.toNat_natCast, aev_id, hz]
    · refine hfr _ (fun ρ' hρ hz => ?_)
      obtain ⟨k1, k2, k3, k4, k5, k6, k7, k8⟩ := hK ρ' hρ
      exact acc_cons k5 (by rw [hl ρ' hρ]; exact Int.natCast_nonneg i) (by rw [hl ρ' hρ, Int.toNat_natCast, aev_id, hz])
/-- surely not the same number -/
def adf (l m : aL) : Bool := match (asub l m).2 with
  | [] => !(ieqb (asub l m).1 0)
  | _ => false
theorem adf_of {ρ : Nat → Int} {l m : aL} (h : adf l m = true) : aev ρ l ≠ aev ρ m := by
  intro e
  have e2 : aev ρ (asub l m) = 0 := by rw [aev_sub, e]; omega
  unfold adf at h
  split at h
  · rename_i hz
    rw [aev, hz] at e2
    have e2 : (asub l m).1 + 0 = 0 := e2
    rw [Int.add_zero] at e2
    rw [e2] at h
    cases h
  · cases h
/-- a pair of rows is alike again at l -/
def arst (prs : List (Nat × Nat)) (C : aC) (p : Nat) (l v : aL) (j : Nat) : Bool := match prs[j]? with
  | some pr => bif Nat.beq pr.1 p then (match acl C pr.2 l with
      | some v' => aeql v v'
      | none => false) else bif Nat.beq pr.2 p then (match acl C pr.1 l with
      | some v' => aeql v v'
      | none => false) else false
  | none => false
def ainv (prs : List (Nat × Nat)) (p : Nat) (j : Nat) : Bool := match prs[j]? with
  | some pr => Nat.beq pr.1 p || Nat.beq pr.2 p
  | none => false
def adw (prs : List (Nat × Nat)) (C : aC) (D : aD) (p : Nat) (l v : aL) : aD :=
  ((List.range prs.length).filter (fun j => ainv prs p j && !(arst prs C p l v j))).map (fun j => (j, l)) ++ D.filter (fun d => !(arst prs C p l v d.1 && aeql d.2 l))
def acw (C : aC) (p : Nat) (l v : aL) : aC := ((p, l), v) :: C.filter (fun q => !(Nat.beq q.1.1 p) || adf l q.1.2)
def aulk : aU → Nat → aL → aL → Option aL
  | [], _, _, _ => none
  | q :: U, o, l, m => bif Nat.beq q.1.1 o && aeql q.1.2.1 l && aeql q.1.2.2 m then some q.2 else aulk U o l m
theorem aulk_of {o : Nat} {l m v : aL} : ∀ {U : aU}, aulk U o l m = some v → ((o, l, m), v) ∈ U
  | [], h => by cases h
  | q :: U, h => by
    unfold aulk at h
    cases c : Nat.beq q.1.1 o && aeql q.1.2.1 l && aeql q.1.2.2 m with
    | true =>
      rw [c] at h
      rw [Bool.and_eq_true, Bool.and_eq_true] at c
      cases h
      rw [← Nat.eq_of_beq_eq_true c.1.1, ← aeql_of c.1.2, ← aeql_of c.2]
      exact List.mem_cons_self ..
    | false =>
      rw [c] at h
      exact List.mem_cons_of_mem _ (aulk_of h)
/-- a row holds at l -/
def arow (E : aE) (F : List aL) (C : aC) (U : aU) (G : aD) (j : Nat) (r : aRw) (l : aL) : Bool :=
  (match acl C r.1 l with
    | some a => apr E F (aadd (aco 1) (asub a (aco r.2.1.1))) || apr E F (aadd (aco 1) (asub (aco r.2.1.2) a))
    | none => false) ||
  ((match acl C r.2.2.1 l with
    | some b => bif ieqb r.2.2.2.1 0 then apr E F (asub b (aco r.2.2.2.2.2)) && apr E F (asub (aco r.2.2.2.2.1) b) else (bif ileb (-2147483648) r.2.2.2.1 && ileb r.2.2.2.1 2147483647 then (match aulk U 8 b (aco r.2.2.2.1) with
      | some m => apr E F (asub m (aco r.2.2.2.2.2)) && apr E F (asub (aco r.2.2.2.2.1) m)
      | none => false) else false)
    | none => false) ||
  (match acl C r.1 l, acl C r.2.2.1 l with
    | some a, some b => C.any (fun q => Nat.beq q.1.1 r.1 && aeql q.2 a && (match acl C r.2.2.1 q.1.2 with
      | some b' => aeql b' b
      | none => false) && G.all (fun d => !(Nat.beq d.1 j) || adf d.2 q.1.2) && adf l q.1.2)
    | _, _ => false))
def agw (rws : List aRw) (E : aE) (F : List aL) (C : aC) (U : aU) (G : aD) (p : Nat) (l : aL) : aD :=
  ((List.range rws.length).filter (fun j => match rws[j]? with
    | some r => (Nat.beq r.1 p || Nat.beq r.2.2.1 p) && !(arow E F C U G j r l)
    | none => false)).map (fun j => (j, l)) ++ G.filter (fun d => !(aeql d.2 l && (match rws[d.1]? with
    | some r => arow E F C U G d.1 r l
    | none => false)))
def awr (prs : List (Nat × Nat)) (rws : List aRw) (K : aKn) (p : Nat) (l v : aL) : aKn := (K.1, K.2.1, K.2.2.1, acw K.2.2.2.1 p l v, K.2.2.2.2.1, adw prs K.2.2.2.1 K.2.2.2.2.2.1 p l v, agw rws K.2.1 K.2.2.1 (acw K.2.2.2.1 p l v) K.2.2.2.2.1 K.2.2.2.2.2.2 p l)
theorem xup_ne {M : xM} {p i p' i' : Nat} {x : Int32} (h : p' ≠ p ∨ i' ≠ i) : xup M p i x p' i' = M p' i' := by
  unfold xup va_up
  by_cases e : p' = p
  · subst e
    rcases h with h | h
    · exact absurd rfl h
    · simp only [if_true, upd, if_neg h]
  · simp only [if_neg e]
theorem xup_self {M : xM} {p i : Nat} {x : Int32} : xup M p i x p i = x := by
  unfold xup va_up upd
  simp only [if_true]
theorem arow_of {xs : Nat → Int32} {ρ : Nat → Int} {E : aE} {F : List aL} {C : aC} {U : aU} {G : aD} {j : Nat} {r : aRw} {l : aL} {M : xM} {i : Nat} (k3 : aok ρ E) (k4 : afk ρ F) (hC : acc ρ C M) (k6 : aun xs ρ U) (hm : ∀ m : aL, (0 ≤ aev ρ m ∧ G.all (fun d => !(Nat.beq d.1 j) || adf d.2 m) = true ∧ adf l m = true) → acnd1 r M (aev ρ m).toNat) (hl : aev ρ l = (i : Int)) (h : arow E F C U G j r l = true) : acnd1 r M i := by
  unfold arow at h
  rw [Bool.or_eq_true, Bool.or_eq_true] at h
  intro q1 q2
  rcases h with h | h | h
  · split at h
    · rename_i a e
      have h3 := (hC _ (acl_of e)).2
      dsimp only at h3
      rw [hl, Int.toNat_natCast] at h3
      rw [Bool.or_eq_true] at h
      rcases h with h | h
      · have := apr_of k3 k4 h
        rw [aev_add, aev_co, aev_sub, aev_co] at this
        omega
      · have := apr_of k3 k4 h
        rw [aev_add, aev_co, aev_sub, aev_co] at this
        omega
    · cases h
  · split at h
    · rename_i b e
      have h3 := (hC _ (acl_of e)).2
      dsimp only at h3
      rw [hl, Int.toNat_natCast] at h3
      unfold arwv
      cases c : ieqb r.2.2.2.1 0 with
      | true =>
        rw [c] at h
        rw [ieqb_iff] at c
        have h : (apr E F (asub b (aco r.2.2.2.2.2)) && apr E F (asub (aco r.2.2.2.2.1) b)) = true := h
        rw [Bool.and_eq_true] at h
        have i1 := apr_of k3 k4 h.1
        have i2 := apr_of k3 k4 h.2
        rw [aev_sub, aev_co] at i1 i2
        rw [if_pos c, h3]
        omega
      | false =>
        rw [c] at h
        have c : ¬ r.2.2.2.1 = 0 := fun z => by rw [ieqb_iff.mpr z] at c; cases c
        rw [if_neg c]
        cases c2 : ileb (-2147483648) r.2.2.2.1 && ileb r.2.2.2.1 2147483647 with
        | false => rw [c2] at h; cases h
        | true =>
          rw [c2] at h
          rw [Bool.and_eq_true, ileb_iff, ileb_iff] at c2
          have h : (match aulk U 8 b (aco r.2.2.2.1) with
            | some m => apr E F (asub m (aco r.2.2.2.2.2)) && apr E F (asub (aco r.2.2.2.2.1) m)
            | none => false) = true := h
          split at h
          · rename_i m e2
            rw [Bool.and_eq_true] at h
            have i1 := apr_of k3 k4 h.1
            have i2 := apr_of k3 k4 h.2
            rw [aev_sub, aev_co] at i1 i2
            have hu := k6 _ (aulk_of e2)
            unfold aun1 at hu
            rw [if_neg (show ¬ (8 : Nat) = 20 by decide), if_neg (show ¬ (8 : Nat) = 21 by decide)] at hu
            have := hu (M r.2.2.1 i) (Int32.ofInt r.2.2.2.1) h3 (by rw [aev_co]; exact Int32.toInt_ofInt_of_le (by omega) (by omega))
            dsimp only at this
            rw [this]
            omega
          · cases h
    · cases h
  · split at h
    · rename_i a b e1 e2
      have h1 := (hC _ (acl_of e1)).2
      have h2 := (hC _ (acl_of e2)).2
      dsimp only at h1 h2
      rw [hl, Int.toNat_natCast] at h1 h2
      obtain ⟨q, hq, h⟩ := List.any_eq_true.mp h
      rw [Bool.and_eq_true, Bool.and_eq_true, Bool.and_eq_true, Bool.and_eq_true] at h
      obtain ⟨⟨⟨⟨z1, z2⟩, z3⟩, z4⟩, z5⟩ := h
      split at z3
      · rename_i b' e3
        have i1 := hC _ hq
        have i2 := (hC _ (acl_of e3)).2
        dsimp only at i2
        have i3 := hm q.1.2 ⟨i1.1, z4, z5⟩
        have i1 := i1.2
        rw [Nat.eq_of_beq_eq_true z1, aeql_of z2, ← h1] at i1
        rw [aeql_of z3, ← h2] at i2
        have j1 := Int32.toInt_inj.mp i1
        have j2 := Int32.toInt_inj.mp i2
        unfold acnd1 at i3
        rw [j1, j2] at i3
        exact i3 q1 q2
      · cases z3
    · cases h
theorem awr_of {xs : Nat → Int32} {L : Nat} {prs : List (Nat × Nat)} {rws : List aRw} {K : aKn} {M : xM} {p i : Nat} {l v : aL} {x : Int32} {ρ : Nat → Int} (hp : ∀ pr ∈ prs, pr.1 ≠ pr.2) (hK : aKok xs L prs rws ρ K M) (hl : aev ρ l = (i : Int)) (hv : x.toInt = aev ρ v) : aKok xs L prs rws ρ (awr prs rws K p l v) (xup M p i x) := by
  obtain ⟨n, E, F, C, U, D, G⟩ := K
  obtain ⟨k1, k2, k3, k4, k5, k6, k7, k8⟩ := hK
  have hC : acc ρ (acw C p l v) (xup M p i x) := by
    refine acc_cons (fun q hq => ?_) (by rw [hl]; exact Int.natCast_nonneg i) (by rw [hl, Int.toNat_natCast, xup_self]; exact hv)
    obtain ⟨h1, h2⟩ := List.mem_filter.mp hq
    have h3 := k5 q h1
    refine ⟨h3.1, ?_⟩
    rw [xup_ne]
    · exact h3.2
    · rw [Bool.or_eq_true] at h2
      rcases h2 with h2 | h2
      · refine Or.inl (fun e => ?_)
        rw [e, Nat.beq_refl] at h2
        cases h2
      · refine Or.inr (fun e => adf_of (ρ := ρ) h2 ?_)
        rw [hl]
        omega
  refine ⟨k1, k2, k3, k4, hC, k6, ?_, ?_⟩
  · intro j pr hj i'
    have hne := hp pr (List.mem_of_getElem? hj)
    have hjl : j < prs.length := (List.getElem?_eq_some_iff.mp hj).1
    by_cases hin : ainv prs p j = true
    · by_cases hrs : arst prs C p l v j = true
      · -- alike again
        by_cases ei : i' = i
        · subst ei
          refine Or.inl ?_
          unfold arst at hrs
          rw [hj] at hrs
          dsimp only at hrs
          cases c1 : Nat.beq pr.1 p with
          | true =>
            rw [c1] at hrs
            have e1 := Nat.eq_of_beq_eq_true c1
            have hrs : (match acl C pr.2 l with
              | some v' => aeql v v'
              | none => false) = true := hrs
            split at hrs
            · rename_i v' e
              have h3 := (k5 _ (acl_of e)).2
              dsimp only at h3
              rw [hl, Int.toNat_natCast, ← aeql_of hrs, ← hv] at h3
              rw [e1] at hne ⊢
              rw [xup_self, xup_ne (Or.inl (Ne.symm hne))]
              exact (Int32.toInt_inj.mp h3).symm
            · cases hrs
          | false =>
            rw [c1] at hrs
            cases c2 : Nat.beq pr.2 p with
            | true =>
              rw [c2] at hrs
              have e1 := Nat.eq_of_beq_eq_true c2
              have hrs : (match acl C pr.1 l with
                | some v' => aeql v v'
                | none => false) = true := hrs
              split at hrs
              · rename_i v' e
                have h3 := (k5 _ (acl_of e)).2
                dsimp only at h3
                rw [hl, Int.toNat_natCast, ← aeql_of hrs, ← hv] at h3
                rw [e1] at hne ⊢
                rw [xup_self, xup_ne (Or.inl hne)]
                exact Int32.toInt_inj.mp h3
              · cases hrs
            | false => rw [c2] at hrs; cases hrs
        · rw [xup_ne (Or.inr ei), xup_ne (Or.inr ei)]
          rcases k7 j pr hj i' with e | ⟨d, hd, hd1, hd2⟩
          · exact Or.inl e
          · refine Or.inr ⟨d, List.mem_append_right _ (List.mem_filter.mpr ⟨hd, ?_⟩), hd1, hd2⟩
            cases c : aeql d.2 l with
            | false => rw [Bool.and_false]; rfl
            | true =>
              rw [aeql_of c, hl] at hd2
              omega
      · by_cases ei : i' = i
        · subst ei
          refine Or.inr ⟨(j, l), List.mem_append_left _ (List.mem_map.mpr ⟨j, List.mem_filter.mpr ⟨List.mem_range.mpr hjl, ?_⟩, rfl⟩), rfl, hl⟩
          rw [hin]
          cases c : arst prs C p l v j with
          | true => exact absurd c hrs
          | false => rfl
        · rw [xup_ne (Or.inr ei), xup_ne (Or.inr ei)]
          rcases k7 j pr hj i' with e | ⟨d, hd, hd1, hd2⟩
          · exact Or.inl e
          · refine Or.inr ⟨d, List.mem_append_right _ (List.mem_filter.mpr ⟨hd, ?_⟩), hd1, hd2⟩
            cases c : aeql d.2 l with
            | false => rw [Bool.and_false]; rfl
            | true =>
              rw [aeql_of c, hl] at hd2
              omega
    · have h1 : pr.1 ≠ p := fun e => hin (by unfold ainv; rw [hj]; dsimp only; rw [e, Nat.beq_refl]; rfl)
      have h2 : pr.2 ≠ p := fun e => hin (by unfold ainv; rw [hj]; dsimp only; rw [e, Nat.beq_refl, Bool.or_true])
      rw [xup_ne (Or.inl h1), xup_ne (Or.inl h2)]
      rcases k7 j pr hj i' with e | ⟨d, hd, hd1, hd2⟩
      · exact Or.inl e
      · refine Or.inr ⟨d, List.mem_append_right _ (List.mem_filter.mpr ⟨hd, ?_⟩), hd1, hd2⟩
        have hr : arst prs C p l v d.1 = false := by
          rw [hd1]
          unfold arst
          rw [hj]
          dsimp only
          cases c1 : Nat.beq pr.1 p with
          | true => exact absurd (Nat.eq_of_beq_eq_true c1) h1
          | false =>
            cases c2 : Nat.beq pr.2 p with
            | true => exact absurd (Nat.eq_of_beq_eq_true c2) h2
            | false => rfl
        rw [hr]
        rfl
  · intro j r hj i'
    have hjl : j < rws.length := (List.getElem?_eq_some_iff.mp hj).1
    by_cases hr : arow E F (acw C p l v) U G j r l = true
    · by_cases ei : i' = i
      · subst ei
        refine Or.inl (arow_of k3 k4 hC k6 (fun m hm => ?_) hl hr)
        obtain ⟨m1, m2, m3⟩ := hm
        have hne : (aev ρ m).toNat ≠ i' := by
          intro e
          exact adf_of (ρ := ρ) m3 (by rw [hl]; omega)
        rcases k8 j r hj (aev ρ m).toNat with e | ⟨d, hd, hd1, hd2⟩
        · intro q1 q2
          rw [xup_ne (Or.inr hne)] at q1 q2 ⊢
          exact e q1 q2
        · have := List.all_eq_true.mp m2 d hd
          rw [Bool.or_eq_true] at this
          rcases this with z | z
          · rw [hd1, Nat.beq_refl] at z
            cases z
          · exact absurd (by rw [hd2]; omega) (adf_of (ρ := ρ) z)
      · rcases k8 j r hj i' with e | ⟨d, hd, hd1, hd2⟩
        · refine Or.inl (fun q1 q2 => ?_)
          rw [xup_ne (Or.inr ei)] at q1 q2 ⊢
          exact e q1 q2
        · refine Or.inr ⟨d, List.mem_append_right _ (List.mem_filter.mpr ⟨hd, ?_⟩), hd1, hd2⟩
          cases c : aeql d.2 l with
          | false => rfl
          | true =>
            rw [aeql_of c, hl] at hd2
            omega
    · have hrf : arow E F (acw C p l v) U G j r l = false := by
        cases c : arow E F (acw C p l v) U G j r l with
        | true => exact absurd c hr
        | false => rfl
      by_cases hin : (Nat.beq r.1 p || Nat.beq r.2.2.1 p) = true
      · by_cases ei : i' = i
        · subst ei
          refine Or.inr ⟨(j, l), List.mem_append_left _ (List.mem_map.mpr ⟨j, List.mem_filter.mpr ⟨List.mem_range.mpr hjl, ?_⟩, rfl⟩), rfl, hl⟩
          rw [hj]
          dsimp only
          rw [hin, hrf]
          rfl
        · rcases k8 j r hj i' with e | ⟨d, hd, hd1, hd2⟩
          · refine Or.inl (fun q1 q2 => ?_)
            rw [xup_ne (Or.inr ei)] at q1 q2 ⊢
            exact e q1 q2
          · refine Or.inr ⟨d, List.mem_append_right _ (List.mem_filter.mpr ⟨hd, ?_⟩), hd1, hd2⟩
            cases c : aeql d.2 l with
            | false => rfl
            | true =>
              rw [aeql_of c, hl] at hd2
              omega
      · have h1 : r.1 ≠ p := fun e => hin (by rw [e, Nat.beq_refl]; rfl)
        have h2 : r.2.2.1 ≠ p := fun e => hin (by rw [e, Nat.beq_refl, Bool.or_true])
        rcases k8 j r hj i' with e | ⟨d, hd, hd1, hd2⟩
        · refine Or.inl (fun q1 q2 => ?_)
          rw [xup_ne (Or.inl h1)] at q1 q2
          rw [xup_ne (Or.inl h2)]
          exact e q1 q2
        · refine Or.inr ⟨d, List.mem_append_right _ (List.mem_filter.mpr ⟨hd, ?_⟩), hd1, hd2⟩
          rw [hd1, hj]
          dsimp only
          rw [hrf, Bool.and_false]
          rfl
