/-! THE ANALYZER, three: the invariant of memory, what was written, what is asked -/
def aLk (M : xM) (pc pv : Nat) : Prop := ∀ s : Nat, s < 30 → ∀ i j : Nat, (i : Int) < (M pc s).toInt → (j : Int) < (M pc s).toInt → M pv (8 * s + i) = M pv (8 * s + j) → i = j
def aX (M : xM) : Prop := aLk M 13 14 ∧ aLk M 68 69 ∧ (∀ i : Nat, 1 ≤ i → (M 58 i).toInt < (i : Int)) ∧ (1 ≤ (M 56 0).toInt → (M 58 0).toInt < 0) ∧ (1 ≤ (M 56 6).toInt → 1 ≤ (M 56 0).toInt) ∧ (∀ i, (M 80 i).toInt + (M 81 i).toInt ≤ 47) ∧ ((M 56 26).toInt - (M 56 27).toInt ≤ 121)
def aInv (M : xM) : Prop := aIvOk M ∧ aX M
abbrev aW : Type := List Nat × List (Nat × Nat)
def aWin (w : aW) (p i : Nat) : Bool := w.1.any (Nat.beq p) || w.2.any (fun t => Nat.beq p t.1 && Nat.beq i t.2)
def aUnw (w : aW) (M M' : xM) : Prop := ∀ p i, aWin w p i = false → M' p i = M p i
theorem aUnw.refl (w : aW) (M : xM) : aUnw w M M := fun _ _ _ => rfl
theorem aUnw.trans {w : aW} {M M' M'' : xM} (h : aUnw w M M') (k : aUnw w M' M'') : aUnw w M M'' := fun p i e => (k p i e).trans (h p i e)
section ANE
variable {xs : Nat → Int32} {L : Nat} {prs : List (Nat × Nat)} {M : xM} {ρ : Nat → Int}
def aSame (K K' : aKn) : Prop := K'.1 = K.1 ∧ K'.2.2.2 = K.2.2.2
theorem aSame.refl (K : aKn) : aSame K K := ⟨rfl, rfl⟩
theorem aSame.trans {K K' K'' : aKn} (h : aSame K K') (k : aSame K' K'') : aSame K K'' := ⟨k.1.trans h.1, k.2.trans h.2⟩
def aset (K : aKn) (q : aEF) : aKn := (K.1, q.1, q.2, K.2.2.2)
def asetO (K : aKn) : Option aEF → Option aKn
  | none => none
  | some q => some (aset K q)
theorem aset_of {K : aKn} {q : aEF} (hK : aHK xs L prs M K ρ) (hq : ∀ ρ', agr K.1 ρ ρ' → aEFok ρ' q) : aHK xs L prs M (aset K q) ρ := by
  intro ρ' h
  obtain ⟨k1, k2, k3, k4, k5⟩ := hK ρ' h
  exact ⟨k1, k2, (hq ρ' h).1, (hq ρ' h).2, k5⟩
theorem asetO_of {K : aKn} {o : Option aEF} (hK : aHK xs L prs M K ρ) (ho : ∃ q, o = some q ∧ ∀ ρ', agr K.1 ρ ρ' → aEFok ρ' q) : ∃ K', asetO K o = some K' ∧ aSame K K' ∧ aHK xs L prs M K' ρ := by
  obtain ⟨q, e, hq⟩ := ho
  subst e
  exact ⟨_, rfl, ⟨rfl, rfl⟩, aset_of hK hq⟩
theorem aHK.EF {K : aKn} (hK : aHK xs L prs M K ρ) : ∀ ρ', agr K.1 ρ ρ' → aok ρ' K.2.1 ∧ afk ρ' K.2.2.1 := fun ρ' h => ⟨(hK ρ' h).2.2.1, (hK ρ' h).2.2.2.1⟩
-- ---- disequalities
def ane1 (K : aKn) (q : (Nat × aL × aL) × aL) : Option aKn := bif Nat.beq q.1.1 21 then (bif apr K.2.1 K.2.2.1 (asub q.1.2.1 q.1.2.2) then asetO K (altR K.2.1 K.2.2.1 q.1.2.1 q.1.2.2) else bif apr K.2.1 K.2.2.1 (asub q.1.2.2 q.1.2.1) then asetO K (altR K.2.1 K.2.2.1 q.1.2.2 q.1.2.1) else some K) else some K
theorem ane1_of {K : aKn} {q : (Nat × aL × aL) × aL} (hK : aHK xs L prs M K ρ) (hq : ∀ ρ', agr K.1 ρ ρ' → aun1 xs ρ' q) : ∃ K', ane1 K q = some K' ∧ aSame K K' ∧ aHK xs L prs M K' ρ := by
  unfold ane1
  cases c : Nat.beq q.1.1 21 with
  | false => exact ⟨K, rfl, aSame.refl K, hK⟩
  | true =>
    have e := Nat.eq_of_beq_eq_true c
    have hn : ∀ ρ', agr K.1 ρ ρ' → aev ρ' q.1.2.1 ≠ aev ρ' q.1.2.2 := by
      intro ρ' h
      have := hq ρ' h
      unfold aun1 at this
      rw [e, if_neg (show ¬ (21 : Nat) = 20 by decide), if_pos rfl] at this
      exact this
    cases c1 : apr K.2.1 K.2.2.1 (asub q.1.2.1 q.1.2.2) with
    | true =>
      exact asetO_of hK (altR_all (P := agr K.1 ρ) (agr_refl _ _) hK.EF (fun ρ' h => by
        have i1 := apr_of (hK.EF ρ' h).1 (hK.EF ρ' h).2 c1
        have := hn ρ' h
        rw [aev_sub] at i1
        omega))
    | false =>
      cases c2 : apr K.2.1 K.2.2.1 (asub q.1.2.2 q.1.2.1) with
      | true =>
        exact asetO_of hK (altR_all (P := agr K.1 ρ) (agr_refl _ _) hK.EF (fun ρ' h => by
          have i1 := apr_of (hK.EF ρ' h).1 (hK.EF ρ' h).2 c2
          have := hn ρ' h
          rw [aev_sub] at i1
          omega))
      | false => exact ⟨K, rfl, aSame.refl K, hK⟩
def afold {α : Type} (f : aKn → α → Option aKn) : List α → aKn → Option aKn
  | [], K => some K
  | a :: l, K => match f K a with
    | none => none
    | some K' => afold f l K'
theorem afold_of {α : Type} {f : aKn → α → Option aKn} {n : Nat} {P : α → Prop} (hf : ∀ (K : aKn) (a : α), K.1 = n → aHK xs L prs M K ρ → P a → ∃ K', f K a = some K' ∧ aSame K K' ∧ aHK xs L prs M K' ρ) : ∀ {l : List α} {K : aKn}, K.1 = n → aHK xs L prs M K ρ → (∀ a ∈ l, P a) → ∃ K', afold f l K = some K' ∧ aSame K K' ∧ aHK xs L prs M K' ρ
  | [], K, _, hK, _ => ⟨K, rfl, aSame.refl K, hK⟩
  | a :: l, K, hn, hK, hP => by
    obtain ⟨K1, e1, s1, h1⟩ := hf K a hn hK (hP a (List.mem_cons_self ..))
    obtain ⟨K2, e2, s2, h2⟩ := afold_of hf (l := l) (K := K1) (s1.1.trans hn) h1 (fun b hb => hP b (List.mem_cons_of_mem _ hb))
    refine ⟨K2, ?_, s1.trans s2, h2⟩
    unfold afold
    rw [e1]
    exact e2
-- ---- rows
def asr1 (K : aKn) (x : aL × aRw) : Option aKn := match K.2.2.2.2.2.2 with
  | [] => (match acl K.2.2.2.1 x.2.1 x.1, acl K.2.2.2.1 x.2.2.2.1 x.1 with
    | some a, some b => bif apr K.2.1 K.2.2.1 (asub a (aco x.2.2.1.2)) && apr K.2.1 K.2.2.1 (asub (aco x.2.2.1.1) a) then (match (bif ieqb x.2.2.2.2.1 0 then some b else bif ileb (-2147483648) x.2.2.2.2.1 && ileb x.2.2.2.2.1 2147483647 then aulk K.2.2.2.2.1 8 b (aco x.2.2.2.2.1) else none) with
      | some m => (match asetO K (aleR K.2.1 K.2.2.1 m (aco x.2.2.2.2.2.2)) with
        | some K1 => asetO K1 (aleR K1.2.1 K1.2.2.1 (aco x.2.2.2.2.2.1) m)
        | none => none)
      | none => some K) else some K
    | _, _ => some K)
  | _ => some K
theorem asr1_of {K : aKn} {x : aL × aRw} (hK : aHK xs L prs M K ρ) (hx : x.2 ∈ aRws) : ∃ K', asr1 K x = some K' ∧ aSame K K' ∧ aHK xs L prs M K' ρ := by
  obtain ⟨l, r⟩ := x
  unfold asr1
  split
  · rename_i eG
    split
    · rename_i a b e1 e2
      cases c : apr K.2.1 K.2.2.1 (asub a (aco r.2.1.2)) && apr K.2.1 K.2.2.1 (asub (aco r.2.1.1) a) with
      | false => exact ⟨K, rfl, aSame.refl K, hK⟩
      | true =>
        dsimp only [cond_true]
        split
        · rename_i m em
          have hm : ∀ ρ', agr K.1 ρ ρ' → r.2.2.2.2.1 ≤ aev ρ' m ∧ aev ρ' m ≤ r.2.2.2.2.2 := by
            intro ρ' h
            obtain ⟨k1, k2, k3, k4, k5, k6, k7, k8⟩ := hK ρ' h
            rw [Bool.and_eq_true] at c
            have i1 := apr_of k3 k4 c.1
            have i2 := apr_of k3 k4 c.2
            rw [aev_sub, aev_co] at i1 i2
            have h1 := k5 _ (acl_of e1)
            have h2 := (k5 _ (acl_of e2)).2
            have h3 := h1.2
            dsimp only at h2 h3
            obtain ⟨j, hj⟩ := List.mem_iff_getElem?.mp hx
            have hc : acnd1 r M (aev ρ' l).toNat := by
              rcases k8 j r hj (aev ρ' l).toNat with z | ⟨d, hd, -⟩
              · exact z
              · rw [eG] at hd
                cases hd
            have hv := hc (by omega) (by omega)
            unfold arwv at hv
            cases c0 : ieqb r.2.2.2.1 0 with
            | true =>
              rw [c0] at em
              rw [ieqb_iff] at c0
              rw [if_pos c0] at hv
              cases em
              omega
            | false =>
              rw [c0] at em
              have c0 : ¬ r.2.2.2.1 = 0 := fun z => by rw [ieqb_iff.mpr z] at c0; cases c0
              rw [if_neg c0] at hv
              cases c3 : ileb (-2147483648) r.2.2.2.1 && ileb r.2.2.2.1 2147483647 with
              | false => rw [c3] at em; cases em
              | true =>
                rw [c3] at em
                rw [Bool.and_eq_true, ileb_iff, ileb_iff] at c3
                have em : aulk K.2.2.2.2.1 8 b (aco r.2.2.2.1) = some m := em
                have hu := k6 _ (aulk_of em)
                unfold aun1 at hu
                rw [if_neg (show ¬ (8 : Nat) = 20 by decide), if_neg (show ¬ (8 : Nat) = 21 by decide)] at hu
                have := hu (M r.2.2.1 (aev ρ' l).toNat) (Int32.ofInt r.2.2.2.1) h2 (by rw [aev_co]; exact Int32.toInt_ofInt_of_le (by omega) (by omega))
                dsimp only at this
                omega
          obtain ⟨K1, f1, s1, g1⟩ := asetO_of hK (aleR_all (l1 := m) (l2 := aco r.2.2.2.2.2) (P := agr K.1 ρ) (agr_refl _ _) hK.EF (fun ρ' h => by rw [aev_co]; exact (hm ρ' h).2))
          have hn : K1.1 = K.1 := s1.1
          obtain ⟨K2, f2, s2, g2⟩ := asetO_of g1 (aleR_all (l1 := aco r.2.2.2.2.1) (l2 := m) (P := agr K1.1 ρ) (agr_refl _ _) g1.EF (fun ρ' h => by rw [aev_co]; rw [hn] at h; exact (hm ρ' h).1))
          refine ⟨K2, ?_, s1.trans s2, g2⟩
          rw [f1]
          exact f2
        · exact ⟨K, rfl, aSame.refl K, hK⟩
    · exact ⟨K, rfl, aSame.refl K, hK⟩
  · exact ⟨K, rfl, aSame.refl K, hK⟩
def apl (C : aC) : List (aL × aRw) := C.flatMap (fun q => (aRws.filter (fun r => Nat.beq q.1.1 r.1)).map (fun r => (q.1.2, r)))
theorem apl_of {C : aC} : ∀ x ∈ apl C, x.2 ∈ aRws := by
  intro x hx
  unfold apl at hx
  obtain ⟨q, -, h⟩ := List.mem_flatMap.mp hx
  obtain ⟨r, h1, h2⟩ := List.mem_map.mp h
  rw [← h2]
  exact (List.mem_filter.mp h1).1
/-- all that is known, brought to bear: none if it can't be -/
def asat (K : aKn) : Option aKn := match afold ane1 (K.2.2.2.2.1 ++ K.2.2.2.2.1 ++ K.2.2.2.2.1) K with
  | none => none
  | some K' => afold asr1 (apl K.2.2.2.1) K'
theorem asat_of {K : aKn} (hK : aHK xs L prs M K ρ) : ∃ K', asat K = some K' ∧ aSame K K' ∧ aHK xs L prs M K' ρ := by
  have hu : ∀ q ∈ K.2.2.2.2.1 ++ K.2.2.2.2.1 ++ K.2.2.2.2.1, ∀ ρ', agr K.1 ρ ρ' → aun1 xs ρ' q := by
    intro q hq ρ' h
    refine (hK ρ' h).2.2.2.2.2.1 q ?_
    rcases List.mem_append.mp hq with h1 | h1
    · rcases List.mem_append.mp h1 with h2 | h2 <;> exact h2
    · exact h1
  obtain ⟨K1, e1, s1, h1⟩ := afold_of (n := K.1) (P := fun q => ∀ ρ', agr K.1 ρ ρ' → aun1 xs ρ' q) (fun K' q hn hK' hq => ane1_of hK' (fun ρ' h => hq ρ' (by rw [← hn]; exact h))) rfl hK hu
  obtain ⟨K2, e2, s2, h2⟩ := afold_of (n := K1.1) (P := fun x : aL × aRw => x.2 ∈ aRws) (fun K' x _ hK' hx => asr1_of hK' hx) rfl h1 (apl_of (C := K.2.2.2.1))
  refine ⟨K2, ?_, s1.trans s2, h2⟩
  unfold asat
  rw [e1]
  exact e2
def adead (K : aKn) : Bool := K.2.1.any (fun t => ileb (t.2.2 + 1) t.2.1)
theorem adead_of {K : aKn} (hK : aHK xs L prs M K ρ) : adead K = false := by
  cases c : adead K with
  | false => rfl
  | true =>
    obtain ⟨t, ht, e⟩ := List.any_eq_true.mp c
    rw [ileb_iff] at e
    have := (hK ρ (agr_refl _ _)).2.2.1 t ht
    omega
def apr2 (E : aE) (F : List aL) (l : aL) : Bool := apr E F l || F.any (fun f => apr E F (asub l f))
theorem apr2_of {ρ : Nat → Int} {E : aE} {F : List aL} (hE : aok ρ E) (hF : afk ρ F) {l : aL} (e : apr2 E F l = true) : aev ρ l ≤ 0 := by
  unfold apr2 at e
  rw [Bool.or_eq_true] at e
  rcases e with e | e
  · exact apr_of hE hF e
  · obtain ⟨f, hf, e⟩ := List.any_eq_true.mp e
    have h1 := apr_of hE hF e
    have h2 := hF f hf
    rw [aev_sub] at h1
    omega
/-- all of cs are at most 0; some none: this can't be reached -/
def aneed (K : aKn) (cs : List aL) : Option (Option aKn) := bif cs.all (apr K.2.1 K.2.2.1) then some (some K) else match asat K with
  | none => some none
  | some K' => bif cs.all (apr K'.2.1 K'.2.2.1) then some (some K') else bif adead K' then some none else bif cs.all (apr2 K'.2.1 K'.2.2.1) then some (some K') else none
theorem aneed_of {K : aKn} {cs : List aL} {r : Option aKn} (hK : aHK xs L prs M K ρ) (h : aneed K cs = some r) : ∃ K', r = some K' ∧ aSame K K' ∧ aHK xs L prs M K' ρ ∧ ∀ ρ', agr K.1 ρ ρ' → ∀ c ∈ cs, aev ρ' c ≤ 0 := by
  unfold aneed at h
  cases c : cs.all (apr K.2.1 K.2.2.1) with
  | true =>
    rw [c] at h
    cases h
    exact ⟨K, rfl, aSame.refl K, hK, fun ρ' hr x hx => apr_of (hK.EF ρ' hr).1 (hK.EF ρ' hr).2 (List.all_eq_true.mp c x hx)⟩
  | false =>
    rw [c] at h
    obtain ⟨K1, e1, s1, h1⟩ := asat_of hK
    dsimp only [cond_false] at h
    rw [e1] at h
    dsimp only at h
    cases c2 : cs.all (apr K1.2.1 K1.2.2.1) with
    | true =>
      rw [c2] at h
      cases h
      refine ⟨K1, rfl, s1, h1, fun ρ' hr x hx => ?_⟩
      rw [← s1.1] at hr
      exact apr_of (h1.EF ρ' hr).1 (h1.EF ρ' hr).2 (List.all_eq_true.mp c2 x hx)
    | false =>
      rw [c2, adead_of h1] at h
      cases c3 : cs.all (apr2 K1.2.1 K1.2.2.1) with
      | false => rw [c3] at h; cases h
      | true =>
        rw [c3] at h
        cases h
        refine ⟨K1, rfl, s1, h1, fun ρ' hr x hx => ?_⟩
        rw [← s1.1] at hr
        exact apr2_of (h1.EF ρ' hr).1 (h1.EF ρ' hr).2 (List.all_eq_true.mp c3 x hx)
end ANE
