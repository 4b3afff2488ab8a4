/-! LIKES: pigeonholes, memory -/
theorem pig : ∀ (k n : Nat) (f : Nat → Nat), (∀ i, i < n → f i < k) → (∀ i j, i < n → j < n → f i = f j → i = j) → n ≤ k
  | 0, n, f, h1, _ => by
    by_cases h : n = 0
    · omega
    · exact absurd (h1 0 (by omega)) (Nat.not_lt_zero _)
  | k + 1, 0, _, _, _ => Nat.zero_le _
  | k + 1, m + 1, f, h1, h2 => by
    have hne : ∀ i, i < m → f i ≠ f m := fun i hi e => by
      have := h2 i m (by omega) (by omega) e
      omega
    refine Nat.succ_le_succ (pig k m (fun i => if f m < f i then f i - 1 else f i) (fun i hi => ?_) (fun i j hi hj e => ?_))
    · have a1 := h1 i (by omega)
      have a2 := h1 m (by omega)
      have a3 := hne i hi
      split <;> omega
    · have a1 := hne i hi
      have a2 := hne j hj
      refine h2 i j (by omega) (by omega) ?_
      split at e <;> split at e <;> omega
theorem i32_8 {s c : Int32} (h0 : 0 ≤ s.toInt) (h1 : s.toInt < 30) (h2 : 0 ≤ c.toInt) (h3 : c.toInt ≤ 8) : ((8 : Int32) * s + c).toInt = 8 * s.toInt + c.toInt := by
  have e8 : (8 : Int32).toInt = 8 := rfl
  have e1 : ((8 : Int32) * s).toInt = 8 * s.toInt := by
    rw [Int32.toInt_mul, e8, Int.bmod_eq_of_le (by omega) (by omega)]
  rw [Int32.toInt_add, e1, Int.bmod_eq_of_le (by omega) (by omega)]
theorem i32_8' {s c : Int32} (h0 : 0 ≤ s.toInt) (h1 : s.toInt < 30) (h2 : 0 ≤ c.toInt) (h3 : c.toInt ≤ 8) : (s * (8 : Int32) + c).toInt = 8 * s.toInt + c.toInt := by
  have e8 : (8 : Int32).toInt = 8 := rfl
  have e1 : (s * (8 : Int32)).toInt = 8 * s.toInt := by
    rw [Int32.toInt_mul, e8, Int.bmod_eq_of_le (by omega) (by omega)]
    omega
  rw [Int32.toInt_add, e1, Int.bmod_eq_of_le (by omega) (by omega)]
theorem i32_1 {c : Int32} (h2 : 0 ≤ c.toInt) (h3 : c.toInt ≤ 8) : (c + 1).toInt = c.toInt + 1 := by
  have e8 : (1 : Int32).toInt = 1 := rfl
  rw [Int32.toInt_add, e8, Int.bmod_eq_of_le (by omega) (by omega)]
/-- a NAME more -/
def lkM (M : xM) (cp vp s : Nat) (name : Int32) : xM := xup (xup M vp (8 * s + (M cp s).toInt.toNat) name) cp s (M cp s + 1)
section ALI
variable {M : xM} {cp vp s : Nat} {name : Int32}
theorem lk_room (hs : s < 30) (hc : ∀ i, 0 ≤ (M cp i).toInt ∧ (M cp i).toInt ≤ 8) (hv : ∀ i, 0 ≤ (M vp i).toInt ∧ (M vp i).toInt ≤ 7) (hn : 0 ≤ name.toInt ∧ name.toInt ≤ 7) (hL : aLk M cp vp) (hno : ∀ j : Nat, (j : Int) < (M cp s).toInt → M vp (8 * s + j) ≠ name) : (M cp s).toInt ≤ 7 := by
  have h0 := hc s
  have := pig 8 ((M cp s).toInt.toNat + 1) (fun j => if j < (M cp s).toInt.toNat then (M vp (8 * s + j)).toInt.toNat else name.toInt.toNat) (fun i hi => ?_) (fun i j hi hj e => ?_)
  · omega
  · have := hv (8 * s + i)
    split <;> omega
  · have a1 := hv (8 * s + i)
    have a2 := hv (8 * s + j)
    by_cases c1 : i < (M cp s).toInt.toNat
    · rw [if_pos c1] at e
      by_cases c2 : j < (M cp s).toInt.toNat
      · rw [if_pos c2] at e
        exact hL s hs i j (by omega) (by omega) (Int32.toInt_inj.mp (by omega))
      · rw [if_neg c2] at e
        exact absurd (Int32.toInt_inj.mp (by omega)) (hno i (by omega))
    · rw [if_neg c1] at e
      by_cases c2 : j < (M cp s).toInt.toNat
      · rw [if_pos c2] at e
        exact absurd (Int32.toInt_inj.mp (by omega)) (hno j (by omega))
      · omega
theorem lkM_c (hpq : cp ≠ vp) : lkM M cp vp s name cp s = M cp s + 1 := xup_self
theorem lkM_v (hpq : cp ≠ vp) : lkM M cp vp s name vp (8 * s + (M cp s).toInt.toNat) = name := by
  unfold lkM
  rw [xup_ne (Or.inl (fun e => hpq e.symm)), xup_self]
theorem lkM_co {i : Nat} (hpq : cp ≠ vp) (h : i ≠ s) : lkM M cp vp s name cp i = M cp i := by
  unfold lkM
  rw [xup_ne (Or.inr h), xup_ne (Or.inl hpq)]
theorem lkM_vo {i : Nat} (hpq : cp ≠ vp) (h : i ≠ 8 * s + (M cp s).toInt.toNat) : lkM M cp vp s name vp i = M vp i := by
  unfold lkM
  rw [xup_ne (Or.inl (fun e => hpq e.symm)), xup_ne (Or.inr h)]
theorem lkM_o {p i : Nat} (h1 : p ≠ cp) (h2 : p ≠ vp) : lkM M cp vp s name p i = M p i := by
  unfold lkM
  rw [xup_ne (Or.inl h1), xup_ne (Or.inl h2)]
theorem lk_up (hpq : cp ≠ vp) (hs : s < 30) (hc : ∀ i, 0 ≤ (M cp i).toInt ∧ (M cp i).toInt ≤ 8) (hL : aLk M cp vp) (h7 : (M cp s).toInt ≤ 7) (hno : ∀ j : Nat, (j : Int) < (M cp s).toInt → M vp (8 * s + j) ≠ name) : aLk (lkM M cp vp s name) cp vp := by
  intro s' hs' i j hi hj e
  have h0 := hc s
  by_cases es : s' = s
  · subst es
    rw [lkM_c hpq, i32_1 (by omega) (by omega)] at hi hj
    by_cases ci : (i : Int) < (M cp s').toInt
    · rw [lkM_vo hpq (by omega)] at e
      by_cases cj : (j : Int) < (M cp s').toInt
      · rw [lkM_vo hpq (by omega)] at e
        exact hL s' hs' i j ci cj e
      · rw [show 8 * s' + j = 8 * s' + (M cp s').toInt.toNat by omega, lkM_v hpq] at e
        exact absurd e (hno i ci)
    · by_cases cj : (j : Int) < (M cp s').toInt
      · rw [show 8 * s' + i = 8 * s' + (M cp s').toInt.toNat by omega, lkM_v hpq, lkM_vo hpq (by omega)] at e
        exact absurd e.symm (hno j cj)
      · omega
  · rw [lkM_co hpq es] at hi hj
    have h8 := hc s'
    rw [lkM_vo hpq (by omega), lkM_vo hpq (by omega)] at e
    exact hL s' hs' i j hi hj e
end ALI
theorem lk_ok {M : xM} {cp vp s : Nat} {name : Int32} (hcv : (cp = 13 ∧ vp = 14) ∨ (cp = 68 ∧ vp = 69)) (hM : aInv M) (hR : aRk M) (hs : s < 30) (hn : 0 ≤ name.toInt ∧ name.toInt ≤ 7) (hno : ∀ j : Nat, (j : Int) < (M cp s).toInt → M vp (8 * s + j) ≠ name) : (M cp s).toInt ≤ 7 ∧ aInv (lkM M cp vp s name) ∧ aRk (lkM M cp vp s name) ∧ aUnw ([cp, vp], []) M (lkM M cp vp s name) := by
  have hpq : cp ≠ vp := by omega
  have hcb : aIvA cp = some (0, 8) := by rcases hcv with ⟨e, -⟩ | ⟨e, -⟩ <;> (subst e; rfl)
  have hvb : aIvA vp = some (0, 7) := by rcases hcv with ⟨-, e⟩ | ⟨-, e⟩ <;> (subst e; rfl)
  have hc := hM.1.1 cp _ hcb
  have hv := hM.1.1 vp _ hvb
  have hL : aLk M cp vp := by
    rcases hcv with ⟨e, e'⟩ | ⟨e, e'⟩
    · subst e; subst e'; exact hM.2.1
    · subst e; subst e'; exact hM.2.2.1
  have h7 := lk_room hs hc hv hn hL hno
  have hnc : aNoF cp = true := by rcases hcv with ⟨e, -⟩ | ⟨e, -⟩ <;> (subst e; decide)
  have hnv : aNoF vp = true := by rcases hcv with ⟨-, e⟩ | ⟨-, e⟩ <;> (subst e; decide)
  have h0 := hc s
  refine ⟨h7, ⟨aIvOk_fr hM.1 (fun p i => ?_), ?_⟩, aRk_fr hR (fun p i h => ?_), fun p i h => ?_⟩
  · by_cases e1 : p = cp
    · by_cases e2 : i = s
      · subst e1; subst e2
        refine Or.inr ⟨fun q hq => ?_, fun q hq => by rw [aNoF_of hnc] at hq; cases hq⟩
        rw [hcb] at hq
        cases hq
        rw [lkM_c hpq, i32_1 (by omega) (by omega)]
        dsimp only
        dsimp only at h0
        omega
      · subst e1
        exact Or.inl (lkM_co hpq e2)
    · by_cases e3 : p = vp
      · subst e3
        by_cases e2 : i = 8 * s + (M cp s).toInt.toNat
        · subst e2
          refine Or.inr ⟨fun q hq => ?_, fun q hq => by rw [aNoF_of hnv] at hq; cases hq⟩
          rw [hvb] at hq
          cases hq
          rw [lkM_v hpq]
          exact hn
        · exact Or.inl (lkM_vo hpq e2)
      · exact Or.inl (lkM_o e1 e3)
  · have ho : ∀ p i, p ≠ cp → p ≠ vp → lkM M cp vp s name p i = M p i := fun p i h1 h2 => lkM_o h1 h2
    have hl := lk_up hpq hs hc hL h7 hno (name := name)
    obtain ⟨x1, x2, x3, x4, x5, x6, x7⟩ := hM.2
    rcases hcv with ⟨e, e'⟩ | ⟨e, e'⟩
    · subst e; subst e'
      refine ⟨hl, aLk_ne x2 (fun i => ho 68 i (by decide) (by decide)) (fun i => ho 69 i (by decide) (by decide)), fun i hi => ?_, fun h => ?_, fun h => ?_, fun i => ?_, ?_⟩
      · rw [ho 58 i (by decide) (by decide)]; exact x3 i hi
      · rw [ho 58 0 (by decide) (by decide)]; rw [ho 56 0 (by decide) (by decide)] at h; exact x4 h
      · rw [ho 56 0 (by decide) (by decide)]; rw [ho 56 6 (by decide) (by decide)] at h; exact x5 h
      · rw [ho 80 i (by decide) (by decide), ho 81 i (by decide) (by decide)]; exact x6 i
      · rw [ho 56 26 (by decide) (by decide), ho 56 27 (by decide) (by decide)]; exact x7
    · subst e; subst e'
      refine ⟨aLk_ne x1 (fun i => ho 13 i (by decide) (by decide)) (fun i => ho 14 i (by decide) (by decide)), hl, fun i hi => ?_, fun h => ?_, fun h => ?_, fun i => ?_, ?_⟩
      · rw [ho 58 i (by decide) (by decide)]; exact x3 i hi
      · rw [ho 58 0 (by decide) (by decide)]; rw [ho 56 0 (by decide) (by decide)] at h; exact x4 h
      · rw [ho 56 0 (by decide) (by decide)]; rw [ho 56 6 (by decide) (by decide)] at h; exact x5 h
      · rw [ho 80 i (by decide) (by decide), ho 81 i (by decide) (by decide)]; exact x6 i
      · rw [ho 56 26 (by decide) (by decide), ho 56 27 (by decide) (by decide)]; exact x7
  · refine lkM_o (fun e => ?_) (fun e => ?_)
    · rcases hcv with ⟨e1, -⟩ | ⟨e1, -⟩ <;> (rw [e, e1] at h; cases h)
    · rcases hcv with ⟨-, e1⟩ | ⟨-, e1⟩ <;> (rw [e, e1] at h; cases h)
  · refine lkM_o (fun e => ?_) (fun e => ?_)
    · rw [e] at h
      unfold aWin at h
      simp only [List.any_cons, Nat.beq_refl, Bool.true_or] at h
      cases h
    · rw [e] at h
      unfold aWin at h
      simp only [List.any_cons, Nat.beq_refl, Bool.true_or, Bool.or_true] at h
      cases h
-- ---- the runs
def kl (n : Nat) (E : aE) (F : List aL) (C : aC) : aKn := (n, (0, (0, 2560)) :: E, F, C, [], [], [])
def i8 : aL := (0, [(1, 8), (3, 1)])
def fm164 (pc : Nat) (l : Option aV) (st : List aV) : List aFr := [(164, pc, [some (.inr (.inr (.inl 56))), vi 1, vi 2, l], st)]
def lkN (fr : List aFr) (p b : Nat) : List aCutG := [(fr, kl 3 [(1, (-2147483648, -1))] [] []), (fr, kl 4 [] [asub (aid 3) (aid 1)] [((p, aco b), aid 3)]), (fr, kl 3 [(2, (-2147483648, -1))] [] []), (fr, kl 3 [(2, (8, 2147483647))] [] [])]
def lS (fr : List aFr) (p b : Nat) : aCutG := (fr, kl 4 [(1, (0, 29)), (2, (0, 7))] [aadd (aco 1) (asub (aid 1) (aid 3))] [((p, aco b), aid 3)])
def lA (fr : List aFr) : aCutG := (fr, kl 4 [(1, (0, 29)), (2, (0, 7)), (3, (0, 8))] [] [])
def lB (fr : List aFr) (cp vp : Nat) : aCutG := (fr, kl 6 [(1, (0, 29)), (2, (0, 7)), (3, (0, 7)), (4, (0, 8))] [aadd (aco 1) (asub (aid 3) (aid 4))] [((cp, aid 1), aid 4), ((vp, i8), aid 5)])
def lC (fr : List aFr) (cp : Nat) : aCutG := (fr, kl 5 [(1, (0, 29)), (2, (0, 7)), (3, (0, 8)), (4, (0, 8))] [asub (aid 4) (aid 3)] [((cp, aid 1), aid 4)])
def lA' (fr : List aFr) : aCutG := (fr, kl 4 [(1, (0, 29)), (2, (0, 7)), (3, (0, 7))] [] [])
def e164 : List aFr := [(164, 0, axent 164 (aen ct_164.2.1 1 [(0, (0, 2560))]).1, [])]
def vk (c : Int) (k : Nat) : Option aV := some (.inl (c, [(k, 1)]))
theorem r164_0 : arunG [] [] ([], []) (lkN (fm164 15 none []) 56 6 ++ [lS (fm164 19 (some (.inl (aco 0))) []) 56 6]) 3 (some (1, 0)) 100 e164 (aK0 ct_164) = true := by decide +kernel
theorem r164_1 : arunG [] [] ([], []) [lB (fm164 41 (vi 3) [.inl (aid 2), .inl (aid 5)]) 68 69, lC (fm164 53 (vi 3) []) 68] 4 (some (1, 0)) 100 (lA (fm164 19 (vi 3) [])).1 (lA (fm164 19 (vi 3) [])).2 = true := by decide +kernel
theorem r164_2 : arunG [] [] ([], []) [lA' (fm164 19 (vk 1 3) [])] 4 (some (1, 0)) 100 (fm164 47 (vi 3) []) (lB [] 68 69).2 = true := by decide +kernel
def fm69 (pc : Nat) (l : Option aV) (st : List aV) : List aFr := [(69, pc, [some (.inr (.inr (.inl 5))), vi 1, vi 2, l], st), (108, 29, [some (.inr (.inr (.inl 0))), vi 1, vi 2], [])]
def e108 : List aFr := [(108, 0, axent 108 (aen ct_108.2.1 1 [(0, (0, 2560))]).1, [])]
def fm108 (pc : Nat) : List aFr := [(108, pc, [some (.inr (.inr (.inl 0))), vi 1, vi 2], [])]
theorem r108_0 : arunG [] [] ([], []) (lkN (fm108 18) 5 9 ++ [lS (fm69 2 (some (.inl (aco 0))) []) 5 9]) 3 (some (1, 0)) 100 e108 (aK0 ct_108) = true := by decide +kernel
theorem r108_1 : arunG [] [] ([], []) [lB (fm69 24 (vi 3) [.inl (aid 2), .inl (aid 5)]) 13 14, lC (fm69 35 (vi 3) []) 13] 4 (some (1, 0)) 100 (lA (fm69 2 (vi 3) [])).1 (lA (fm69 2 (vi 3) [])).2 = true := by decide +kernel
theorem r108_2 : arunG [] [] ([], []) [lA' (fm69 2 (vk 1 3) [])] 4 (some (1, 0)) 100 (fm69 29 (vi 3) []) (lB [] 13 14).2 = true := by decide +kernel
def lsg : aSg := [(0, aid 0), (1, aid 1), (2, aid 2), (3, aco 0)]
def lsg1 : aSg := [(0, aid 0), (1, aid 1), (2, aid 2), (3, (1, [(3, 1)]))]
theorem r164_3 : (achF lsg (lA (fm164 19 (vi 3) [])).1 (lS (fm164 19 (some (.inl (aco 0))) []) 56 6).1 && achKU lsg (lA (fm164 19 (vi 3) [])).2 (lS (fm164 19 (some (.inl (aco 0))) []) 56 6).2) = true := by decide +kernel
theorem r164_4 : (achF lsg1 (lA (fm164 19 (vi 3) [])).1 (lA' (fm164 19 (vk 1 3) [])).1 && achKU lsg1 (lA (fm164 19 (vi 3) [])).2 (lA' (fm164 19 (vk 1 3) [])).2) = true := by decide +kernel
theorem r108_3 : (achF lsg (lA (fm69 2 (vi 3) [])).1 (lS (fm69 2 (some (.inl (aco 0))) []) 5 9).1 && achKU lsg (lA (fm69 2 (vi 3) [])).2 (lS (fm69 2 (some (.inl (aco 0))) []) 5 9).2) = true := by decide +kernel
theorem r108_4 : (achF lsg1 (lA (fm69 2 (vi 3) [])).1 (lA' (fm69 2 (vk 1 3) [])).1 && achKU lsg1 (lA (fm69 2 (vi 3) [])).2 (lA' (fm69 2 (vk 1 3) [])).2) = true := by decide +kernel
section ALR
variable {xs : Nat → Int32} {L : Nat} {M : xM} {s name : Int32} {Q : xZ → Prop}
def lkIn (M : xM) (p b : Nat) (s name : Int32) : Prop := 0 ≤ s.toInt ∧ s.toInt < (M p b).toInt ∧ 0 ≤ name.toInt ∧ name.toInt ≤ 7
def lkHas (M : xM) (cp vp : Nat) (s name : Int32) : Prop := ∃ j : Nat, (j : Int) < (M cp s.toInt.toNat).toInt ∧ M vp (8 * s.toInt.toNat + j) = name
/-- what like must end with -/
def lkQ (M : xM) (p b cp vp : Nat) (s name : Int32) (Q : xZ → Prop) : Prop := (¬ lkIn M p b s name → Q (some (.int (-1)), 102, xsh0, M)) ∧ (lkIn M p b s name → lkHas M cp vp s name → Q (some (.int (-2)), 102, xsh0, M)) ∧ (lkIn M p b s name → ¬ lkHas M cp vp s name → Q (some (.int (M cp s.toInt.toNat + 1)), 102, xsh0, lkM M cp vp s.toInt.toNat name))
theorem PLne {y : Nat} {x x' : Int32} {t f : Nat} {r : List (Option Value) × List Value × Nat × List xSh × xM} {Q : xZ → Prop} (a : ¬ x = x' → PL xs L y (t, r) Q) (b : x = x' → PL xs L y (f, r) Q) : PL xs L y (xcmp .ne x x' t f, r) Q := by
  by_cases h : x = x'
  · rw [show xcmp .ne x x' t f = f from if_pos h]; exact b h
  · rw [show xcmp .ne x x' t f = t from if_neg h]; exact a h
set_option maxRecDepth 100000 in
theorem t164 (hM : aInv M) (hR : aRk M) {v : Option Value} (h0 : 0 ≤ s.toInt) (h1 : s.toInt < 30) (hn : 0 ≤ name.toInt ∧ name.toInt ≤ 7) (hno : ¬ lkHas M 68 69 s name) (k : Q (some (.int (M 68 s.toInt.toNat + 1)), 102, xsh0, lkM M 68 69 s.toInt.toNat name)) : PL xs L 164 (53, [some (.ref 56), some (.int s), some (.int name), v], [], 102, xsh0, M) Q := by
  have hno' : ∀ j : Nat, (j : Int) < (M 68 s.toInt.toNat).toInt → M 69 (8 * s.toInt.toNat + j) ≠ name := fun j hj e => hno ⟨j, hj, e⟩
  obtain ⟨h7, -⟩ := lk_ok (cp := 68) (vp := 69) (Or.inr ⟨rfl, rfl⟩) hM hR (s := s.toInt.toNat) (by omega) hn hno'
  have hc := hM.1.1 68 (0, 8) rfl s.toInt.toNat
  dsimp only at hc
  have hsn := natC (i := s) rfl h0
  have hix := i32_8 (s := s) (c := M 68 s.toInt.toNat) h0 h1 hc.1 hc.2
  have hixn := natC hix (by omega)
  refine PL.go (k := 8) (s' := (66, [some (.ref 56), some (.int s), some (.int name), v], [.int s, .ref 68, .int ((8 : Int32) * s), .ref 69], 102, xsh0, M)) rfl ?_
  refine PL.next (ys_iald (p := 68) (n := 30) rfl rfl rfl h0 h1) ?_
  rw [hsn]
  refine PL.go (k := 2) (s' := (69, [some (.ref 56), some (.int s), some (.int name), v], [.int name, .int ((8 : Int32) * s + M 68 s.toInt.toNat), .ref 69], 102, xsh0, M)) rfl ?_
  refine PL.next (ys_iast (p := 69) (n := 240) rfl rfl (by rw [hix]; omega) (by rw [hix]; omega)) ?_
  rw [hixn, show (8 * s.toInt + (M 68 s.toInt.toNat).toInt).toNat = 8 * s.toInt.toNat + (M 68 s.toInt.toNat).toInt.toNat by omega]
  refine PL.go (k := 4) (s' := (76, [some (.ref 56), some (.int s), some (.int name), v], [.int s, .ref 68, .int s, .ref 68], 102, xsh0, xup M 69 (8 * s.toInt.toNat + (M 68 s.toInt.toNat).toInt.toNat) name)) rfl ?_
  refine PL.next (ys_iald (p := 68) (n := 30) rfl rfl rfl h0 h1) ?_
  rw [hsn, xup_ne (Or.inl (by decide))]
  refine PL.go (k := 2) (s' := (79, [some (.ref 56), some (.int s), some (.int name), v], [.int (M 68 s.toInt.toNat + 1), .int s, .ref 68], 102, xsh0, xup M 69 (8 * s.toInt.toNat + (M 68 s.toInt.toNat).toInt.toNat) name)) rfl ?_
  refine PL.next (ys_iast (p := 68) (n := 30) rfl rfl h0 h1) ?_
  rw [hsn]
  refine PL.go (k := 3) (s' := (85, [some (.ref 56), some (.int s), some (.int name), v], [.int s, .ref 68], 102, xsh0, lkM M 68 69 s.toInt.toNat name)) rfl ?_
  refine PL.next (ys_iald (p := 68) (n := 30) rfl rfl rfl h0 h1) ?_
  rw [hsn, lkM_c (by decide)]
  exact PL.ret (v := some (.int (M 68 s.toInt.toNat + 1))) rfl k
/-- what the loop has seen -/
def lkSeen (M : xM) (vp : Nat) (s name : Int32) (i : Int) : Prop := ∀ j : Nat, (j : Int) < i → M vp (8 * s.toInt.toNat + j) ≠ name
theorem lB_of {fr : List aFr} {cp vp : Nat} {ρ : Nat → Int} {cfr : List cFr} (hS : aHS xs L [] M (lB fr cp vp).2 ρ fr cfr) : 0 ≤ ρ 1 ∧ ρ 1 ≤ 29 ∧ 0 ≤ ρ 3 ∧ ρ 3 < ρ 4 ∧ (M cp (ρ 1).toNat).toInt = ρ 4 ∧ (M vp (8 * (ρ 1).toNat + (ρ 3).toNat)).toInt = ρ 5 ∧ ρ 3 ≤ 7 := by
  have hk := (hS ρ (agr_refl _ _)).1
  have b1 := hk.2.2.1 (1, (0, 29)) (List.mem_cons_of_mem _ (List.mem_cons_self ..))
  have b3 := hk.2.2.1 (3, (0, 7)) (List.mem_cons_of_mem _ (List.mem_cons_of_mem _ (List.mem_cons_of_mem _ (List.mem_cons_self ..))))
  have f1 := hk.2.2.2.1 _ (List.mem_cons_self ..)
  have c1 := hk.2.2.2.2.1 ((cp, aid 1), aid 4) (List.mem_cons_self ..)
  have c2 := hk.2.2.2.2.1 ((vp, i8), aid 5) (List.mem_cons_of_mem _ (List.mem_cons_self ..))
  dsimp only at b1 b3 c1 c2
  rw [aev_add, aev_co, aev_sub, aev_id, aev_id] at f1
  rw [aev_id, aev_id] at c1
  have e8 : aev ρ i8 = 8 * ρ 1 + ρ 3 := by
    show (0 : Int) + (8 * ρ 1 + (1 * ρ 3 + 0)) = _
    omega
  rw [e8, aev_id, show (8 * ρ 1 + ρ 3).toNat = 8 * (ρ 1).toNat + (ρ 3).toNat by omega] at c2
  exact ⟨b1.1, b1.2, b3.1, by omega, c1.2, c2.2, b3.2⟩
theorem lC_of {fr : List aFr} {cp : Nat} {ρ : Nat → Int} {cfr : List cFr} (hS : aHS xs L [] M (lC fr cp).2 ρ fr cfr) : 0 ≤ ρ 1 ∧ ρ 1 ≤ 29 ∧ ρ 4 ≤ ρ 3 ∧ (M cp (ρ 1).toNat).toInt = ρ 4 := by
  have hk := (hS ρ (agr_refl _ _)).1
  have b1 := hk.2.2.1 (1, (0, 29)) (List.mem_cons_of_mem _ (List.mem_cons_self ..))
  have f1 := hk.2.2.2.1 _ (List.mem_cons_self ..)
  have c1 := hk.2.2.2.2.1 ((cp, aid 1), aid 4) (List.mem_cons_self ..)
  dsimp only at b1 c1
  rw [aev_sub, aev_id, aev_id] at f1
  rw [aev_id, aev_id] at c1
  exact ⟨b1.1, b1.2, by omega, c1.2⟩
set_option maxRecDepth 100000 in
theorem l164 (hL : L ≤ 2560) (hM : aInv M) (hin : lkIn M 56 6 s name) (hq : lkQ M 56 6 68 69 s name Q) : ∀ (n : Nat) (ρ : Nat → Int) (cfr : List cFr), (8 - ρ 3).toNat = n → ρ 1 = s.toInt → ρ 2 = name.toInt → lkSeen M 69 s name (ρ 3) → aHS xs L [] M (lA (fm164 19 (vi 3) [])).2 ρ (lA (fm164 19 (vi 3) [])).1 cfr → aGl xs L Q M cfr := by
  intro n
  induction n using Nat.strongRecOn with
  | _ n ih =>
    intro ρ cfr hn hs1 hs2 hseen hS
    have hR := hS.rk rfl
    refine arunG_of (ρ0 := ρ) (g := 4) (M0 := M) prs0 hL allc0 (fun r h => aPost_no h) ?_ 100 _ _ ρ M cfr r164_1 hS hM (aUnw.refl _ M) (Nat.le_refl 4) (agr_refl _ _)
    intro c hc ρ' M' cfr' hS' hM' hU hag
    have eM : M' = M := aUnw_nil hU
    subst eM
    have e1 : ρ' 1 = ρ 1 := hag 1 (by decide)
    have e2 : ρ' 2 = ρ 2 := hag 2 (by decide)
    have e3 : ρ' 3 = ρ 3 := hag 3 (by decide)
    have hk := hS' ρ' (agr_refl _ _)
    rcases List.mem_cons.mp hc with ec | hc
    · subst ec
      obtain ⟨b1, b2, b3, b4, b5, b6, b7⟩ := lB_of (fr := fm164 41 (vi 3) [.inl (aid 2), .inl (aid 5)]) hS'
      obtain ⟨plc, skc, m, e, hl, hst, hnl⟩ := afrs_cons hk.2
      have e4 := afrs_nil hnl
      obtain ⟨v1, sk1, f1, g1, hst⟩ := astkC hst
      obtain ⟨v2, sk2, f2, g2, hst⟩ := astkC hst
      have f3 := astkN hst
      obtain ⟨x1, a1, d1⟩ := avalI g1
      obtain ⟨x2, a2, d2⟩ := avalI g2
      subst e4; subst f3; subst a1; subst a2; subst f2; subst f1
      rw [aev_id] at d1 d2
      have hx1 : x1 = name := Int32.toInt_inj.mp (by omega)
      subst hx1
      have hx2 : x2 = M' 69 (8 * s.toInt.toNat + (ρ' 3).toNat) := Int32.toInt_inj.mp (by rw [d2, ← b6, e1, hs1])
      have hrun : ¬ x2 = x1 → aGl xs L Q M' [(164, 47, plc, [])] := fun hne => by
        have hS2 : aHS xs L [] M' (lB [] 68 69).2 ρ' (fm164 47 (vi 3) []) [(164, 47, plc, [])] := fun ρ'' h => ⟨(hS' ρ'' h).1, ⟨rfl, rfl, by
          have := (hS' ρ'' h).2
          rw [e] at this
          exact this.1.2.2.1, trivial⟩, trivial⟩
        refine arunG_of (ρ0 := ρ') (g := 4) (M0 := M') prs0 hL allc0 (fun r h => aPost_no h) ?_ 100 _ _ ρ' M' _ r164_2 hS2 hM (aUnw.refl _ M') (by decide) (agr_refl _ _)
        intro c hc ρ3 M3 cfr3 hS3 hM3 hU3 hag3
        have ec := List.mem_singleton.mp hc
        subst ec
        have eM := aUnw_nil hU3
        subst eM
        obtain ⟨ρc, hSc, hρc⟩ := aconv lsg1 r164_4 hS3
        have q1 : ρc 1 = ρ3 1 := (hρc 1 (aid 1) rfl).trans aev_id
        have q2 : ρc 2 = ρ3 2 := (hρc 2 (aid 2) rfl).trans aev_id
        have q3 : ρc 3 = 1 + ρ3 3 := (hρc 3 (1, [(3, 1)]) rfl).trans (by show (1 : Int) + (1 * ρ3 3 + 0) = _; omega)
        have u1 : ρ3 1 = ρ' 1 := hag3 1 (by decide)
        have u2 : ρ3 2 = ρ' 2 := hag3 2 (by decide)
        have u3 : ρ3 3 = ρ' 3 := hag3 3 (by decide)
        refine ih (8 - ρc 3).toNat (by omega) ρc cfr3 rfl (by omega) (by omega) (fun j hj => ?_) hSc
        by_cases hjj : (j : Int) < ρ 3
        · exact hseen j hjj
        · rw [show j = (ρ' 3).toNat by omega, ← hx2]
          exact hne
      rw [e]
      show PL xs L 164 (41, plc, [.int x1, .int x2], 102, xsh0, M') Q
      refine PL.go (k := 1) (s' := (xcmp .ne x2 x1 47 44, plc, [], 102, xsh0, M')) rfl ?_
      refine PLne hrun (fun heq => ?_)
      refine PL.go (k := 1) (s' := (46, plc, [.int (-2)], 102, xsh0, M')) rfl ?_
      refine PL.ret (v := some (.int (-2))) rfl (hq.2.1 hin ⟨(ρ' 3).toNat, ?_, ?_⟩)
      · rw [← hs1, ← e1, b5]; omega
      · rw [← hx2]; exact heq
    · have ec := List.mem_singleton.mp hc
      subst ec
      obtain ⟨b1, b2, b3, b4⟩ := lC_of (fr := fm164 53 (vi 3) []) hS'
      obtain ⟨plc, skc, m, e, hl, hst, hnl⟩ := afrs_cons hk.2
      have e4 := afrs_nil hnl
      have f3 := astkN hst
      obtain ⟨v1, l1, f1, g1, hl⟩ := alocC hl
      obtain ⟨v2, l2, f2, g2, hl⟩ := alocC hl
      obtain ⟨v3, l3, f4, g3, hl⟩ := alocC hl
      obtain ⟨v4, l4, f5, g4, hl⟩ := alocC hl
      have f6 := alocN hl
      have a1 := alo1R g1
      obtain ⟨x2, a2, d2⟩ := alo1I g2
      obtain ⟨x3, a3, d3⟩ := alo1I g3
      subst e4; subst f3; subst a1; subst a2; subst a3; subst f6; subst f5; subst f4; subst f2; subst f1
      rw [aev_id] at d2 d3
      have hx2 : x2 = s := Int32.toInt_inj.mp (by omega)
      have hx3 : x3 = name := Int32.toInt_inj.mp (by omega)
      subst hx2; subst hx3
      have hno : ¬ lkHas M' 68 69 x2 x3 := fun ⟨j, hj, ej⟩ => by
        rw [← hs1, ← e1, b4] at hj
        exact hseen j (by omega) ej
      rw [e]
      exact t164 hM hR (by omega) (by omega) hin.2.2 hno (hq.2.2 hin hno)
end ALR
