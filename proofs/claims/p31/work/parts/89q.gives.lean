/-! BY HAND: who gives more, who breaks -/
section AQT
variable {xs : Nat → Int32} {L : Nat} {prs : List (Nat × Nat)} {ρ : Nat → Int} {M : xM} {Q : xZ → Prop}
theorem aHS.un {K : aKn} {fr : List aFr} {cfr : List cFr} (hS : aHS xs L prs M K ρ fr cfr) {q : (Nat × aL × aL) × aL} (h : q ∈ K.2.2.2.2.1) : aun1 xs ρ q := (hS ρ (agr_refl _ _)).1.2.2.2.2.2.1 q h
theorem bt_of {K : aKn} {fr : List aFr} {cfr : List cFr} (hS : aHS xs L prs M K ρ fr cfr) {ps i g a b c : Nat} (hc : ((ps, aid i), aid a) ∈ K.2.2.2.1) (hu : ((5, aid a, aid g), aid b) ∈ K.2.2.2.2.1) (hv : ((1, aid b, aco 1), aid c) ∈ K.2.2.2.2.1) (hg : 0 ≤ ρ g ∧ ρ g ≤ 5) : (bt (M ps (ρ i).toNat) (Int32.ofNat (ρ g).toNat)).toInt = ρ c := by
  have h1 := cell_i hS hc
  have h2 := hS.un hu
  have h3 := hS.un hv
  unfold aun1 at h2 h3
  rw [if_neg (show ¬ (5 : Nat) = 20 by decide), if_neg (show ¬ (5 : Nat) = 21 by decide)] at h2
  rw [if_neg (show ¬ (1 : Nat) = 20 by decide), if_neg (show ¬ (1 : Nat) = 21 by decide)] at h3
  dsimp only at h2 h3
  have hgi : (Int32.ofNat (ρ g).toNat).toInt = ρ g := by
    rw [i32_ofNat (by omega)]
    omega
  have h4 := h2 (M ps (ρ i).toNat) (Int32.ofNat (ρ g).toNat) (by rw [aev_id]; exact h1) (by rw [aev_id]; exact hgi)
  rw [aev_id] at h4
  have h5 := h3 (aopf 5 (M ps (ρ i).toNat) (Int32.ofNat (ρ g).toNat)) 1 (by rw [aev_id]; exact h4) (by rw [aev_co]; rfl)
  rw [aev_id] at h5
  exact h5
/-- a branch on two numbers that are alike or not -/
theorem br_icmp {y pc len tgt b w : Nat} {off : Int} {op : Jvm.ClassFile.Cond} {pl : List (Option aV)} {sk : List aV} {fs : List aFr} {K : aKn} {u v : aL} {cfr : List cFr} (hop : op = .eq ∨ op = .ne) (hI : xI y pc = some (.if_icmp op off, len, tgt, b, w)) (hS : aHS xs L prs M K ρ ((y, pc, pl, .inl v :: .inl u :: sk) :: fs) cfr)
    (k1 : aev ρ u = aev ρ v → ∀ cfr', aHS xs L prs M K ρ ((y, (if op = .eq then tgt else pc + 3), pl, sk) :: fs) cfr' → aGl xs L Q M cfr') (k2 : aev ρ u ≠ aev ρ v → ∀ cfr', aHS xs L prs M K ρ ((y, (if op = .eq then pc + 3 else tgt), pl, sk) :: fs) cfr' → aGl xs L Q M cfr') : aGl xs L Q M cfr := by
  obtain ⟨plc, skc, m, e, hl, hst, hnl⟩ := afrs_cons (hS ρ (agr_refl _ _)).2
  obtain ⟨v1, sk1, f1, g1, hst⟩ := astkC hst
  obtain ⟨v2, sk2, f2, g2, hst⟩ := astkC hst
  obtain ⟨x1, a1, d1⟩ := avalI g1
  obtain ⟨x2, a2, d2⟩ := avalI g2
  subst a1; subst a2; subst f2; subst f1
  have hS2 : ∀ pc', aHS xs L prs M K ρ ((y, pc', pl, sk) :: fs) ((y, pc', plc, sk2) :: m) := fun pc' ρ' h => by
    have := hS ρ' h
    rw [e] at this
    exact ⟨this.1, ⟨rfl, rfl, this.2.1.2.2.1, this.2.1.2.2.2.2.2⟩, this.2.2⟩
  rw [e]
  show PL xs L y (pc, plc, .int x1 :: .int x2 :: sk2, 102, xsh0, M) _
  refine PL.next (s' := (xcmp op x2 x1 tgt (pc + 3), plc, sk2, 102, xsh0, M)) (by rw [xI_step hI]; rfl) ?_
  by_cases h : x2 = x1
  · have h' : aev ρ u = aev ρ v := by rw [← d1, ← d2, h]
    have hx : xcmp op x2 x1 tgt (pc + 3) = (if op = .eq then tgt else pc + 3) := by
      rcases hop with e1 | e1 <;> (subst e1; simp [xcmp, h])
    rw [hx]
    exact k1 h' _ (hS2 _)
  · have h' : aev ρ u ≠ aev ρ v := fun z => h (Int32.toInt_inj.mp (by rw [d1, d2]; exact z))
    have hx : xcmp op x2 x1 tgt (pc + 3) = (if op = .eq then pc + 3 else tgt) := by
      rcases hop with e1 | e1 <;> (subst e1; simp [xcmp, h])
    rw [hx]
    exact k2 h' _ (hS2 _)
/-- the first numbers of a call's arguments -/
theorem args2 {p a b : Nat} {asc : List Value} (h : astk ρ [r_ p, .inl (aid a), .inl (aid b)] asc) : ∃ x y : Int32, asc = [.ref p, .int x, .int y] ∧ x.toInt = ρ a ∧ y.toInt = ρ b := by
  obtain ⟨v0, vs, e, h0, hvs⟩ := astkC h
  obtain ⟨v1, vs1, e', h1, hvs1⟩ := astkC hvs
  obtain ⟨v2, vs2, e2, h2, hvs2⟩ := astkC hvs1
  have e0 := aval_ref h0
  obtain ⟨x, a1, d1⟩ := avalI h1
  obtain ⟨y, a2, d2⟩ := avalI h2
  have e3 := astkN hvs2
  subst e0; subst a1; subst a2; subst e3; subst e2; subst e'; subst e
  rw [aev_id] at d1 d2
  exact ⟨x, y, rfl, d1, d2⟩
theorem args1 {p a : Nat} {asc : List Value} (h : astk ρ [r_ p, .inl (aid a)] asc) : ∃ x : Int32, asc = [.ref p, .int x] ∧ x.toInt = ρ a := by
  obtain ⟨v0, vs, e, h0, hvs⟩ := astkC h
  obtain ⟨v1, vs1, e', h1, hvs1⟩ := astkC hvs
  have e0 := aval_ref h0
  obtain ⟨x, a1, d1⟩ := avalI h1
  have e3 := astkN hvs1
  subst e0; subst a1; subst e3; subst e'; subst e
  rw [aev_id] at d1
  exact ⟨x, rfl, d1⟩
end AQT
-- ---- givesMore
def f15 (pc : Nat) (l : Option aV) (st : List aV) : List aFr := [(15, pc, [R_ 47, vi 1, vi 2, l], st)]
def w6 (a b : Nat) : aL := (0, [(a, 6), (b, 1)])
def e15 : aE := [e0, (1, (0, 11)), (2, (0, 11))]
def g15 : aCutG := (f15 2 (vi 3) [], (4, e15 ++ [(3, (0, 6))], [], [], [], [], []))
def u15 : aU := [((5, aid 4, aid 3), aid 5), ((1, aid 5, aco 1), aid 6)]
def x15 : List aCutG := [(f15 50 (vi 3) [], (4, e15 ++ [(3, (6, 6))], [], [], [], [], [])),
  (f15 42 (vi 3) [], (9, e15 ++ [(3, (0, 5)), (6, (1, 1))], [le_ 7 8], [((49, aid 1), aid 4), ((50, w6 1 3), aid 7), ((50, w6 2 3), aid 8)], u15, [], [])),
  (f15 2 (vk 1 3) [], (7, e15 ++ [(3, (0, 5)), (6, (0, 0))], [], [((49, aid 1), aid 4)], u15, [], [])),
  (f15 2 (vk 1 3) [], (9, e15 ++ [(3, (0, 5))], [lt_ 8 7], [((50, w6 1 3), aid 7), ((50, w6 2 3), aid 8)], [], [], []))]
def ct_15e : aCt := (15, [.inr (.inr 47), .inl (0, 11), .inl (0, 11)], [], some (0, 1), ([], []))
theorem g15_0 : arunG [] [] ([], []) [(f15 2 z_ [], (3, e15, [], [], [], [], []))] 3 (some (1, 0)) 100 [(15, 0, axent 15 (aen ct_15e.2.1 1 [(0, (0, 2560))]).1, [])] (aK0 ct_15e) = true := by decide +kernel
theorem g15_1 : arunG [] [] ([], []) x15 4 (some (1, 0)) 100 g15.1 g15.2 = true := by decide +kernel
def sg15 : aSg := [(0, aid 0), (1, aid 1), (2, aid 2), (3, aco 0)]
def sg15' : aSg := [(0, aid 0), (1, aid 1), (2, aid 2), (3, (1, [(3, 1)]))]
theorem g15_2 : (achF sg15 g15.1 (f15 2 z_ []) && achKU sg15 g15.2 (3, e15, [], [], [], [], [])) = true := by decide +kernel
theorem g15_3 : (achF sg15' g15.1 (f15 2 (vk 1 3) []) && achKU sg15' g15.2 (7, e15 ++ [(3, (0, 5)), (6, (0, 0))], [], [((49, aid 1), aid 4)], u15, [], [])) = true := by decide +kernel
theorem g15_4 : (achF sg15' g15.1 (f15 2 (vk 1 3) []) && achKU sg15' g15.2 (9, e15 ++ [(3, (0, 5))], [lt_ 8 7], [((50, w6 1 3), aid 7), ((50, w6 2 3), aid 8)], [], [], [])) = true := by decide +kernel
section AGV
variable {xs : Nat → Int32} {L : Nat} {M : xM} {Q : xZ → Prop}
theorem w6_of {prs : List (Nat × Nat)} {ρ : Nat → Int} {K : aKn} {fr : List aFr} {cfr : List cFr} (hS : aHS xs L prs M K ρ fr cfr) {p a b k : Nat} (h : ((p, w6 a b), aid k) ∈ K.2.2.2.1) (ha : 0 ≤ ρ a) (hb : 0 ≤ ρ b) : (M p (6 * (ρ a).toNat + (ρ b).toNat)).toInt = ρ k := by
  have := (hS.ce h).2
  dsimp only at this
  have e6 : aev ρ (w6 a b) = 6 * ρ a + ρ b := by
    show (0 : Int) + (6 * ρ a + (1 * ρ b + 0)) = _
    omega
  rw [e6, aev_id, show (6 * ρ a + ρ b).toNat = 6 * (ρ a).toNat + (ρ b).toNat by omega] at this
  exact this
theorem end15 {pc : Nat} {v : Int32} {pl : List (Option aV)} {K : aKn} {prs : List (Nat × Nat)} {ρ : Nat → Int} {cfr : List cFr} (hpc : (pc = 50 ∧ v = 1) ∨ (pc = 42 ∧ v = 0)) (hS : aHS xs L prs M K ρ [(15, pc, pl, [])] cfr) (hq : Q (some (.int v), 102, xsh0, M)) : aGl xs L Q M cfr := by
  obtain ⟨plc, skc, m, e, hl, hst, hnl⟩ := afrs_cons (hS ρ (agr_refl _ _)).2
  have f2 := astkN hst
  have f3 := afrs_nil hnl
  subst f2; subst f3
  rw [e]
  rcases hpc with ⟨h1, h2⟩ | ⟨h1, h2⟩
  · subst h1; subst h2
    show PL xs L 15 (50, plc, [], 102, xsh0, M) Q
    refine PL.go (k := 1) (s' := (51, plc, [.int 1], 102, xsh0, M)) rfl ?_
    exact PL.ret (v := some (.int 1)) rfl hq
  · subst h1; subst h2
    show PL xs L 15 (42, plc, [], 102, xsh0, M) Q
    refine PL.go (k := 1) (s' := (43, plc, [.int 0], 102, xsh0, M)) rfl ?_
    exact PL.ret (v := some (.int 0)) rfl hq
theorem l15 (hL : L ≤ 2560) (hM : aInv M) : ∀ (n : Nat) (ρ : Nat → Int) (cfr : List cFr), 6 - ρ 3 = (n : Int) → Q (some (.int (b2i (gvA (M 49) (M 50) (ρ 1).toNat (ρ 2).toNat n))), 102, xsh0, M) → aHS xs L [] M g15.2 ρ g15.1 cfr → aGl xs L Q M cfr := by
  intro n
  induction n with
  | zero =>
    intro ρ cfr hn hq hS
    refine arunG_of (ρ0 := ρ) (g := 4) (M0 := M) prs0 hL allc0 (fun r h => aPost_no h) ?_ 100 _ _ ρ M cfr g15_1 hS hM (aUnw.refl _ M) (Nat.le_refl 4) (agr_refl _ _)
    intro c hc ρ' M' cfr' hS' hM' hU hag
    have eM : M' = M := aUnw_nil hU
    subst eM
    have e3 : ρ' 3 = ρ 3 := hag 3 (by decide)
    have hb : ∀ {K : aKn} {fr : List aFr}, aHS xs L [] M' K ρ' fr cfr' → (3, ((0 : Int), (5 : Int))) ∈ K.2.1 → aGl xs L Q M' cfr' := fun h hm => by
      have := h.bd hm
      dsimp only at this
      omega
    unfold x15 at hc
    simp only [List.mem_cons, List.not_mem_nil, or_false] at hc
    rcases hc with e | e | e | e
    · subst e; exact end15 (Or.inl ⟨rfl, rfl⟩) hS' hq
    · subst e; exact hb hS' (by decide)
    · subst e; exact hb hS' (by decide)
    · subst e; exact hb hS' (by decide)
  | succ n ih =>
    intro ρ cfr hn hq hS
    refine arunG_of (ρ0 := ρ) (g := 4) (M0 := M) prs0 hL allc0 (fun r h => aPost_no h) ?_ 100 _ _ ρ M cfr g15_1 hS hM (aUnw.refl _ M) (Nat.le_refl 4) (agr_refl _ _)
    intro c hc ρ' M' cfr' hS' hM' hU hag
    have eM : M' = M := aUnw_nil hU
    subst eM
    have e1 : ρ' 1 = ρ 1 := hag 1 (by decide)
    have e2 : ρ' 2 = ρ 2 := hag 2 (by decide)
    have e3 : ρ' 3 = ρ 3 := hag 3 (by decide)
    have hg : (ρ' 3).toNat = 5 - n := by omega
    have hgv : gvA (M' 49) (M' 50) (ρ 1).toNat (ρ 2).toNat (n + 1) = (gvF (M' 49) (M' 50) (ρ' 1).toNat (ρ' 2).toNat (ρ' 3).toNat && gvA (M' 49) (M' 50) (ρ 1).toNat (ρ 2).toNat n) := by
      rw [e1, e2, hg]
      rfl
    unfold x15 at hc
    simp only [List.mem_cons, List.not_mem_nil, or_false] at hc
    rcases hc with e | e | e | e
    · subst e
      have := hS'.bd (t := (3, (6, 6))) (by decide)
      dsimp only at this
      omega
    · subst e
      have b1 := hS'.bd (t := (1, (0, 11))) (by decide)
      have b2 := hS'.bd (t := (2, (0, 11))) (by decide)
      have b3 := hS'.bd (t := (3, (0, 5))) (by decide)
      have b6 := hS'.bd (t := (6, (1, 1))) (by decide)
      dsimp only at b1 b2 b3 b6
      have f1 := le_of (hS'.fa (f := le_ 7 8) (List.mem_cons_self ..))
      have hbt := bt_of (ps := 49) (i := 1) (g := 3) (a := 4) (b := 5) (c := 6) hS' (List.mem_cons_self ..) (List.mem_cons_self ..) (List.mem_cons_of_mem _ (List.mem_cons_self ..)) ⟨b3.1, b3.2⟩
      have c7 := w6_of (p := 50) (a := 1) (b := 3) (k := 7) hS' (List.mem_cons_of_mem _ (List.mem_cons_self ..)) b1.1 b3.1
      have c8 := w6_of (p := 50) (a := 2) (b := 3) (k := 8) hS' (List.mem_cons_of_mem _ (List.mem_cons_of_mem _ (List.mem_cons_self ..))) b2.1 b3.1
      have hf : gvF (M' 49) (M' 50) (ρ' 1).toNat (ρ' 2).toNat (ρ' 3).toNat = false := by
        unfold gvF
        rw [decide_eq_false (by omega), decide_eq_false (by omega)]
        rfl
      rw [hgv, hf] at hq
      exact end15 (Or.inr ⟨rfl, rfl⟩) hS' hq
    · subst e
      have b3 := hS'.bd (t := (3, (0, 5))) (by decide)
      have b6 := hS'.bd (t := (6, (0, 0))) (by decide)
      dsimp only at b3 b6
      have hbt := bt_of (ps := 49) (i := 1) (g := 3) (a := 4) (b := 5) (c := 6) hS' (List.mem_cons_self ..) (List.mem_cons_self ..) (List.mem_cons_of_mem _ (List.mem_cons_self ..)) ⟨b3.1, b3.2⟩
      have hf : gvF (M' 49) (M' 50) (ρ' 1).toNat (ρ' 2).toNat (ρ' 3).toNat = true := by
        unfold gvF
        rw [decide_eq_true (by omega), Bool.true_or]
      rw [hgv, hf, Bool.true_and] at hq
      obtain ⟨ρc, hSc, hρc⟩ := aconv sg15' g15_3 hS'
      have q1 : ρc 1 = ρ' 1 := (hρc 1 (aid 1) rfl).trans aev_id
      have q2 : ρc 2 = ρ' 2 := (hρc 2 (aid 2) rfl).trans aev_id
      have q3 : ρc 3 = 1 + ρ' 3 := (hρc 3 (1, [(3, 1)]) rfl).trans aev_s
      refine ih ρc cfr' (by omega) ?_ hSc
      rw [q1, q2, e1, e2]
      exact hq
    · subst e
      have b1 := hS'.bd (t := (1, (0, 11))) (by decide)
      have b2 := hS'.bd (t := (2, (0, 11))) (by decide)
      have b3 := hS'.bd (t := (3, (0, 5))) (by decide)
      dsimp only at b1 b2 b3
      have f1 := lt_of (hS'.fa (f := lt_ 8 7) (List.mem_cons_self ..))
      have c7 := w6_of (p := 50) (a := 1) (b := 3) (k := 7) hS' (List.mem_cons_self ..) b1.1 b3.1
      have c8 := w6_of (p := 50) (a := 2) (b := 3) (k := 8) hS' (List.mem_cons_of_mem _ (List.mem_cons_self ..)) b2.1 b3.1
      have hf : gvF (M' 49) (M' 50) (ρ' 1).toNat (ρ' 2).toNat (ρ' 3).toNat = true := by
        unfold gvF
        rw [decide_eq_true (p := (M' 50 (6 * (ρ' 2).toNat + (ρ' 3).toNat)).toInt < (M' 50 (6 * (ρ' 1).toNat + (ρ' 3).toNat)).toInt) (by omega), Bool.or_true]
      rw [hgv, hf, Bool.true_and] at hq
      obtain ⟨ρc, hSc, hρc⟩ := aconv sg15' g15_4 hS'
      have q1 : ρc 1 = ρ' 1 := (hρc 1 (aid 1) rfl).trans aev_id
      have q2 : ρc 2 = ρ' 2 := (hρc 2 (aid 2) rfl).trans aev_id
      have q3 : ρc 3 = 1 + ρ' 3 := (hρc 3 (1, [(3, 1)]) rfl).trans aev_s
      refine ih ρc cfr' (by omega) ?_ hSc
      rw [q1, q2, e1, e2]
      exact hq
theorem f15_ (hL : L ≤ 2560) (hM : aInv M) (hR : aRk M) {a b : Int32} (ha : 0 ≤ a.toInt ∧ a.toInt ≤ 11) (hb : 0 ≤ b.toInt ∧ b.toInt ≤ 11) (hq : Q (some (.int (b2i (gvA (M 49) (M 50) a.toInt.toNat b.toInt.toNat 6))), 102, xsh0, M)) : PL xs L 15 (0, xent 15 [.ref 47, .int a, .int b], [], 102, xsh0, M) Q := by
  obtain ⟨ρ2, hS⟩ := aentry (xs := xs) (c := ct_15e) (as := [.ref 47, .int a, .int b]) hL hR ⟨rfl, ha, hb, trivial⟩
  have hl : aloc ρ2 [R_ 47, vi 1, vi 2, none] [some (.ref 47), some (.int a), some (.int b), none] := (hS ρ2 (agr_refl _ _)).2.1.2.2.1
  have hs1 : a.toInt = ρ2 1 := (show a.toInt = aev ρ2 (aid 1) from hl.2.1).trans aev_id
  have hs2 : b.toInt = ρ2 2 := (show b.toInt = aev ρ2 (aid 2) from hl.2.2.1).trans aev_id
  show aGl xs L Q M [(15, 0, xent 15 [.ref 47, .int a, .int b], [])]
  refine arunG_of (ρ0 := ρ2) (g := 3) (M0 := M) prs0 hL allc0 (fun r h => aPost_no h) ?_ 100 _ _ ρ2 M _ g15_0 hS hM (aUnw.refl _ M) (by decide) (agr_refl _ _)
  intro c hc ρ' M' cfr' hS' hM' hU hag
  have ec := List.mem_singleton.mp hc
  subst ec
  have eM : M' = M := aUnw_nil hU
  subst eM
  obtain ⟨ρc, hSc, hρc⟩ := aconv sg15 g15_2 hS'
  have q1 : ρc 1 = ρ' 1 := (hρc 1 (aid 1) rfl).trans aev_id
  have q2 : ρc 2 = ρ' 2 := (hρc 2 (aid 2) rfl).trans aev_id
  have q3 : ρc 3 = 0 := (hρc 3 (aco 0) rfl).trans aev_co
  have e1 : ρ' 1 = ρ2 1 := hag 1 (by decide)
  have e2 : ρ' 2 = ρ2 2 := hag 2 (by decide)
  refine l15 hL hM' 6 ρc cfr' (by rw [q3]; rfl) ?_ hSc
  rw [q1, q2, e1, e2, ← hs1, ← hs2]
  exact hq
end AGV
-- ---- breaker
def f14 (pc : Nat) (l : Option aV) (st : List aV) : List aFr := [(14, pc, [R_ 47, vi 1, l], st)]
def e14 : aE := [e0, (1, (0, 11))]
def g14 : aCutG := (f14 2 (vi 2) [], (3, e14 ++ [(2, (0, 12))], [], [], [], [], []))
def k14 : aKn := (4, e14 ++ [(2, (0, 11))], [lt_ 2 3], [((47, aco 3), aid 3)], [], [], [])
def x14 : List aCutG := [(f14 40 (vi 2) [], (4, e14 ++ [(2, (0, 12))], [le_ 3 2], [((47, aco 3), aid 3)], [], [], [])),
  (f14 12 (vi 2) [.inl (aid 1), .inl (aid 2)], k14)]
def n14 : aCutG := (f14 2 (vk 1 2) [], (3, e14 ++ [(2, (0, 11))], [], [], [], [], []))
def kW (v : Int) (K : aKn) : aKn := (K.1, [(K.1 - 1, (v, v))] ++ K.2.1, K.2.2)
theorem g14_1 : arunG [] [] ([], []) x14 3 (some (1, 0)) 100 g14.1 g14.2 = true := by decide +kernel
theorem g14_2 : arunG [] [] ([], []) [n14] 3 (some (1, 0)) 100 (f14 34 (vi 2) []) k14 = true := by decide +kernel
theorem g14_3 : arunG [] [] ([], []) [(f14 17 (vi 2) [.inl (aid 2), r_ 47], k14)] 4 (some (1, 0)) 100 (f14 15 (vi 2) []) k14 = true := by decide +kernel
theorem g14_4 : arunG [] [] ([], []) [n14] 3 (some (1, 0)) 100 (f14 20 (vi 2) [.inl (aid 4)]) (kW 0 (kpush k14)) = true := by decide +kernel
theorem g14_5 : arunG [] [] ([], []) [(f14 26 (vi 2) [.inl (aid 1), .inl (aid 2), r_ 47], kcl k14)] 4 (some (1, 0)) 100 (f14 20 (vi 2) [.inl (aid 4)]) (kW 1 (kpush k14)) = true := by decide +kernel
theorem g14_6 : arunG [] [] ([], []) [n14] 3 (some (1, 0)) 100 (f14 29 (vi 2) [.inl (aid 4)]) (kW 0 (kpush (kcl k14))) = true := by decide +kernel
theorem g14_7 : arunG [] [] ([], []) [(f14 33 (vi 2) [.inl (aid 2)], kcl k14)] 4 (some (1, 0)) 100 (f14 29 (vi 2) [.inl (aid 4)]) (kW 1 (kpush (kcl k14))) = true := by decide +kernel
theorem g14_8 : (achF [(0, aid 0), (1, aid 1), (2, (1, [(2, 1)]))] g14.1 n14.1 && achKU [(0, aid 0), (1, aid 1), (2, (1, [(2, 1)]))] g14.2 n14.2) = true := by decide +kernel
def ct_14e : aCt := (14, [.inr (.inr 47), .inl (0, 11)], [], some (-1, 11), ([], []))
theorem g14_0 : arunG [] [] ([], []) [(f14 2 z_ [], (2, e14, [], [], [], [], []))] 2 (some (1, 0)) 100 [(14, 0, axent 14 (aen ct_14e.2.1 1 [(0, (0, 2560))]).1, [])] (aK0 ct_14e) = true := by decide +kernel
theorem g14_9 : (achF [(0, aid 0), (1, aid 1), (2, aco 0)] g14.1 (f14 2 z_ []) && achKU [(0, aid 0), (1, aid 1), (2, aco 0)] g14.2 (2, e14, [], [], [], [], [])) = true := by decide +kernel
section ABR
variable {xs : Nat → Int32} {L : Nat} {M : xM} {Q : xZ → Prop}
theorem kW_of {K : aKn} {n : Nat} {ρ : Nat → Int} {fr : List aFr} {cfr : List cFr} {x : Int32} {v : Int} (hn : K.1 = n) (hx : x.toInt = v) (hS : aHS xs L [] M (kpush K) (apush ρ K.1 x.toInt) fr cfr) : aHS xs L [] M (kW v (kpush K)) (apush ρ n x.toInt) fr cfr := by
  subst hn
  refine aHS_E (E := [(K.1 + 1 - 1, (v, v))]) hS (fun ρ'' h t ht => ?_)
  have et := List.mem_singleton.mp ht
  subst et
  have h3 : ρ'' K.1 = x.toInt := (h K.1 (Nat.lt_succ_self _)).trans apush_self
  show v ≤ ρ'' (K.1 + 1 - 1) ∧ ρ'' (K.1 + 1 - 1) ≤ v
  rw [Nat.add_sub_cancel, h3, hx]
  exact ⟨Int.le_refl _, Int.le_refl _⟩
theorem brk_n {f st wt : Nat → Int32} {o n k : Nat} (h : brP f st wt o k = false) : brk f st wt o (n + 1) k = brk f st wt o n (k + 1) := by
  rw [brk, h]
  rfl
theorem brk_y {f st wt : Nat → Int32} {o n k : Nat} (h : brP f st wt o k = true) : brk f st wt o (n + 1) k = Int32.ofNat k := by
  rw [brk, h]
  rfl
theorem l14 (hL : L ≤ 2560) (hM : aInv M) (hR : aRk M) : ∀ (n : Nat) (ρ : Nat → Int) (cfr : List cFr), ρ 2 ≤ (M 47 3).toInt → (M 47 3).toInt - ρ 2 = (n : Int) → Q (some (.int (brk (M 48) (M 49) (M 50) (ρ 1).toNat n (ρ 2).toNat)), 102, xsh0, M) → aHS xs L [] M g14.2 ρ g14.1 cfr → aGl xs L Q M cfr := by
  intro n
  induction n with
  | zero =>
    intro ρ cfr hle hn hq hS
    refine arunG_of (ρ0 := ρ) (g := 3) (M0 := M) prs0 hL allc0 (fun r h => aPost_no h) ?_ 100 _ _ ρ M cfr g14_1 hS hM (aUnw.refl _ M) (Nat.le_refl 3) (agr_refl _ _)
    intro c hc ρ' M' cfr' hS' hM' hU hag
    have eM : M' = M := aUnw_nil hU
    subst eM
    have e2 : ρ' 2 = ρ 2 := hag 2 (by decide)
    unfold x14 at hc
    simp only [List.mem_cons, List.not_mem_nil, or_false] at hc
    rcases hc with e | e
    · subst e
      obtain ⟨plc, skc, m, e, hl, hst, hnl⟩ := afrs_cons (hS' ρ' (agr_refl _ _)).2
      have f2 := astkN hst
      have f3 := afrs_nil hnl
      subst f2; subst f3
      rw [e]
      show PL xs L 14 (40, plc, [], 102, xsh0, M') Q
      refine PL.go (k := 1) (s' := (41, plc, [.int (-1)], 102, xsh0, M')) rfl ?_
      exact PL.ret (v := some (.int (-1))) rfl hq
    · subst e
      have f1 := lt_of (hS'.fa (f := lt_ 2 3) (List.mem_cons_self ..))
      have c1 := cell_f (p := 47) (b := 3) (k := 3) hS' (List.mem_cons_self ..)
      omega
  | succ n ih =>
    intro ρ cfr hle hn hq hS
    have hsz := hM.1.2 47 3 (0, 12) rfl
    dsimp only at hsz
    have b1 := hS.bd (t := (1, (0, 11))) (by decide)
    have b2 := hS.bd (t := (2, (0, 12))) (by decide)
    dsimp only at b1 b2
    have next : ∀ (ρ1 : Nat → Int) (cfr1 : List cFr), ρ1 1 = ρ 1 → ρ1 2 = ρ 2 → brP (M 48) (M 49) (M 50) (ρ 1).toNat (ρ 2).toNat = false → aHS xs L [] M n14.2 ρ1 n14.1 cfr1 → aGl xs L Q M cfr1 := by
      intro ρ1 cfr1 h1 h2 hp hS1
      obtain ⟨ρc, hSc, hρc⟩ := aconv [(0, aid 0), (1, aid 1), (2, (1, [(2, 1)]))] g14_8 hS1
      have q1 : ρc 1 = ρ1 1 := (hρc 1 (aid 1) rfl).trans aev_id
      have q2 : ρc 2 = 1 + ρ1 2 := (hρc 2 (1, [(2, 1)]) rfl).trans aev_s
      refine ih ρc cfr1 (by omega) (by omega) ?_ hSc
      rw [brk_n hp] at hq
      rw [q1, q2, h1, h2, show (1 + ρ 2).toNat = (ρ 2).toNat + 1 by omega]
      exact hq
    refine arunG_of (ρ0 := ρ) (g := 3) (M0 := M) prs0 hL allc0 (fun r h => aPost_no h) ?_ 100 _ _ ρ M cfr g14_1 hS hM (aUnw.refl _ M) (Nat.le_refl 3) (agr_refl _ _)
    intro c hc ρ' M' cfr' hS' hM' hU hag
    have eM : M' = M := aUnw_nil hU
    subst eM
    have e1 : ρ' 1 = ρ 1 := hag 1 (by decide)
    have e2 : ρ' 2 = ρ 2 := hag 2 (by decide)
    unfold x14 at hc
    simp only [List.mem_cons, List.not_mem_nil, or_false] at hc
    rcases hc with e | e
    · subst e
      have f1 := le_of (hS'.fa (f := le_ 3 2) (List.mem_cons_self ..))
      have c1 := cell_f (p := 47) (b := 3) (k := 3) hS' (List.mem_cons_self ..)
      omega
    · subst e
      have f1 := lt_of (hS'.fa (f := lt_ 2 3) (List.mem_cons_self ..))
      have c1 := cell_f (p := 47) (b := 3) (k := 3) hS' (List.mem_cons_self ..)
      refine br_icmp (y := 14) (pc := 12) (tgt := 34) (op := .eq) (Or.inl rfl) rfl hS' (fun heq cfr2 hS2 => ?_) (fun hne cfr2 hS2 => ?_)
      · rw [aev_id, aev_id] at heq
        refine arunG_of (ρ0 := ρ') (g := 3) (M0 := M') prs0 hL allc0 (fun r h => aPost_no h) ?_ 100 _ _ ρ' M' cfr2 g14_2 hS2 hM (aUnw.refl _ _) (by decide) (agr_refl _ _)
        intro c hc ρ3 M3 cfr3 hS3 hM3 hU3 hag3
        have ec := List.mem_singleton.mp hc
        subst ec
        have eM := aUnw_nil hU3
        subst eM
        have u1 : ρ3 1 = ρ' 1 := hag3 1 (by decide)
        have u2 : ρ3 2 = ρ' 2 := hag3 2 (by decide)
        refine next ρ3 cfr3 (by omega) (by omega) ?_ hS3
        unfold brP
        rw [show (ρ 2).toNat = (ρ 1).toNat by omega, Nat.beq_refl]
        rfl
      · rw [aev_id, aev_id] at hne
        have hbne : Nat.beq (ρ 2).toNat (ρ 1).toNat = false := by
          cases c : Nat.beq (ρ 2).toNat (ρ 1).toNat with
          | false => rfl
          | true => exact absurd (Nat.eq_of_beq_eq_true c) (by omega)
        have hbp : brP (M' 48) (M' 49) (M' 50) (ρ 1).toNat (ρ 2).toNat = (winF (M' 48) (M' 49) (ρ 2).toNat && gvA (M' 49) (M' 50) (ρ 2).toNat (ρ 1).toNat 6) := by
          unfold brP
          rw [hbne]
          rfl
        refine arunG_of (ρ0 := ρ') (g := 4) (M0 := M') prs0 hL allc0 (fun r h => aPost_no h) ?_ 100 _ _ ρ' M' cfr2 g14_3 hS2 hM (aUnw.refl _ _) (by decide) (agr_refl _ _)
        intro c hc ρ3 M3 cfr3 hS3 hM3 hU3 hag3
        have ec := List.mem_singleton.mp hc
        subst ec
        have eM := aUnw_nil hU3
        subst eM
        have u1 : ρ3 1 = ρ' 1 := hag3 1 (by decide)
        have u2 : ρ3 2 = ρ' 2 := hag3 2 (by decide)
        refine call_cut (z := 13) (as := [r_ 47, .inl (aid 2)]) (rest := []) rfl rfl (by decide) hS3 (fun asc R hasc hRR => ?_)
        obtain ⟨x, ex, dx⟩ := args1 hasc
        subst ex
        refine f13 (by omega) (by omega) ?_
        have exn : x.toInt.toNat = (ρ 2).toNat := by rw [dx, u2, e2]
        rw [exn]
        obtain ⟨cfr4, hS4, go4⟩ := hRR (b2i (winF (M3 48) (M3 49) (ρ 2).toNat)) M3 hR
        refine go4 ?_
        cases hw : winF (M3 48) (M3 49) (ρ 2).toNat with
        | false =>
          rw [hw] at hS4
          refine arunG_of (ρ0 := apush ρ3 4 (b2i false).toInt) (g := 3) (M0 := M3) prs0 hL allc0 (fun r h => aPost_no h) ?_ 100 _ _ _ M3 cfr4 g14_4 (kW_of (n := 4) (v := 0) rfl rfl hS4) hM (aUnw.refl _ _) (by decide) (agr_refl _ _)
          intro c hc ρ5 M5 cfr5 hS5 hM5 hU5 hag5
          have ec := List.mem_singleton.mp hc
          subst ec
          have eM := aUnw_nil hU5
          subst eM
          have v1 : ρ5 1 = ρ3 1 := hag5 1 (by decide)
          have v2 : ρ5 2 = ρ3 2 := hag5 2 (by decide)
          exact next ρ5 cfr5 (by omega) (by omega) (by rw [hbp, hw]; rfl) hS5
        | true =>
          rw [hw] at hS4
          refine arunG_of (ρ0 := apush ρ3 4 (b2i true).toInt) (g := 4) (M0 := M3) prs0 hL allc0 (fun r h => aPost_no h) ?_ 100 _ _ _ M3 cfr4 g14_5 (kW_of (n := 4) (v := 1) rfl rfl hS4) hM (aUnw.refl _ _) (by decide) (agr_refl _ _)
          intro c hc ρ5 M5 cfr5 hS5 hM5 hU5 hag5
          have ec := List.mem_singleton.mp hc
          subst ec
          have eM := aUnw_nil hU5
          subst eM
          have v1 : ρ5 1 = ρ3 1 := hag5 1 (by decide)
          have v2 : ρ5 2 = ρ3 2 := hag5 2 (by decide)
          refine call_cut (z := 15) (as := [r_ 47, .inl (aid 2), .inl (aid 1)]) (rest := []) rfl rfl (by decide) hS5 (fun asc R hasc hRR => ?_)
          obtain ⟨x2, x3, ex2, dx2, dx3⟩ := args2 hasc
          subst ex2
          refine f15_ hL hM5 hR (by omega) (by omega) ?_
          rw [show x2.toInt.toNat = (ρ 2).toNat by rw [dx2, v2, u2, e2], show x3.toInt.toNat = (ρ 1).toNat by rw [dx3, v1, u1, e1]]
          obtain ⟨cfr6, hS6, go6⟩ := hRR (b2i (gvA (M5 49) (M5 50) (ρ 2).toNat (ρ 1).toNat 6)) M5 hR
          refine go6 ?_
          cases hv : gvA (M5 49) (M5 50) (ρ 2).toNat (ρ 1).toNat 6 with
          | false =>
            rw [hv] at hS6
            refine arunG_of (ρ0 := apush ρ5 4 (b2i false).toInt) (g := 3) (M0 := M5) prs0 hL allc0 (fun r h => aPost_no h) ?_ 100 _ _ _ M5 cfr6 g14_6 (kW_of (n := 4) (v := 0) rfl rfl hS6) hM (aUnw.refl _ _) (by decide) (agr_refl _ _)
            intro c hc ρ7 M7 cfr7 hS7 hM7 hU7 hag7
            have ec := List.mem_singleton.mp hc
            subst ec
            have eM := aUnw_nil hU7
            subst eM
            have t1 : ρ7 1 = ρ5 1 := hag7 1 (by decide)
            have t2 : ρ7 2 = ρ5 2 := hag7 2 (by decide)
            exact next ρ7 cfr7 (by omega) (by omega) (by rw [hbp, hw, hv]; rfl) hS7
          | true =>
            rw [hv] at hS6
            refine arunG_of (ρ0 := apush ρ5 4 (b2i true).toInt) (g := 4) (M0 := M5) prs0 hL allc0 (fun r h => aPost_no h) ?_ 100 _ _ _ M5 cfr6 g14_7 (kW_of (n := 4) (v := 1) rfl rfl hS6) hM (aUnw.refl _ _) (by decide) (agr_refl _ _)
            intro c hc ρ7 M7 cfr7 hS7 hM7 hU7 hag7
            have ec := List.mem_singleton.mp hc
            subst ec
            have eM := aUnw_nil hU7
            subst eM
            have t2 : ρ7 2 = ρ5 2 := hag7 2 (by decide)
            rw [brk_y (by rw [hbp, hw, hv]; rfl)] at hq
            refine ret_i (y := 14) (pc := 33) rfl rfl hS7 (fun x' hx' => ?_)
            rw [aev_id] at hx'
            have : x' = Int32.ofNat (ρ 2).toNat := Int32.toInt_inj.mp (by rw [i32_ofNat (by omega)]; omega)
            subst this
            exact hq
theorem f14_ (hL : L ≤ 2560) (hM : aInv M) (hR : aRk M) {a : Int32} (ha : 0 ≤ a.toInt ∧ a.toInt ≤ 11) (hq : Q (some (.int (brk (M 48) (M 49) (M 50) a.toInt.toNat (M 47 3).toInt.toNat 0)), 102, xsh0, M)) : PL xs L 14 (0, xent 14 [.ref 47, .int a], [], 102, xsh0, M) Q := by
  obtain ⟨ρ2, hS⟩ := aentry (xs := xs) (c := ct_14e) (as := [.ref 47, .int a]) hL hR ⟨rfl, ha, trivial⟩
  have hl : aloc ρ2 [R_ 47, vi 1, none] [some (.ref 47), some (.int a), none] := (hS ρ2 (agr_refl _ _)).2.1.2.2.1
  have hs1 : a.toInt = ρ2 1 := (show a.toInt = aev ρ2 (aid 1) from hl.2.1).trans aev_id
  have hsz := hM.1.2 47 3 (0, 12) rfl
  dsimp only at hsz
  show aGl xs L Q M [(14, 0, xent 14 [.ref 47, .int a], [])]
  refine arunG_of (ρ0 := ρ2) (g := 2) (M0 := M) prs0 hL allc0 (fun r h => aPost_no h) ?_ 100 _ _ ρ2 M _ g14_0 hS hM (aUnw.refl _ M) (by decide) (agr_refl _ _)
  intro c hc ρ' M' cfr' hS' hM' hU hag
  have ec := List.mem_singleton.mp hc
  subst ec
  have eM : M' = M := aUnw_nil hU
  subst eM
  obtain ⟨ρc, hSc, hρc⟩ := aconv [(0, aid 0), (1, aid 1), (2, aco 0)] g14_9 hS'
  have q1 : ρc 1 = ρ' 1 := (hρc 1 (aid 1) rfl).trans aev_id
  have q2 : ρc 2 = 0 := (hρc 2 (aco 0) rfl).trans aev_co
  have e1 : ρ' 1 = ρ2 1 := hag 1 (by decide)
  refine l14 hL hM' hR (M' 47 3).toInt.toNat ρc cfr' (by omega) (by omega) ?_ hSc
  rw [q1, q2, e1, ← hs1]
  exact hq
end ABR
