/-! BY HAND: what isGood answers, of class and reference -/
def b2i (b : Bool) : Int32 := if b then 1 else 0
theorem b2i_t : b2i true = 1 := rfl
theorem b2i_f : b2i false = 0 := rfl
def gdF (M : xM) (pa pn pr : Nat) (d q sz : Int) : Nat → Int → Bool
  | 0, _ => true
  | k + 1, at_ => if 0 ≤ at_ ∧ at_ < sz then (if (M pn at_.toNat).toInt < d ∨ (M pr at_.toNat).toInt < q then false else gdF M pa pn pr d q sz k (M pa at_.toNat).toInt) else true
section AGD
variable {M : xM} {pa pn pr : Nat} {d q sz : Int}
theorem gd_out {k : Nat} {a : Int} (h : ¬ (0 ≤ a ∧ a < sz)) : gdF M pa pn pr d q sz k a = true := by
  cases k with
  | zero => rfl
  | succ k =>
    unfold gdF
    exact if_neg h
theorem gd_f {k : Nat} {a : Int} (h : 0 ≤ a ∧ a < sz) (h2 : (M pn a.toNat).toInt < d ∨ (M pr a.toNat).toInt < q) : gdF M pa pn pr d q sz (k + 1) a = false := by
  unfold gdF
  rw [if_pos h, if_pos h2]
theorem gd_n {k : Nat} {a : Int} (h : 0 ≤ a ∧ a < sz) (h2 : ¬ ((M pn a.toNat).toInt < d ∨ (M pr a.toNat).toInt < q)) : gdF M pa pn pr d q sz (k + 1) a = gdF M pa pn pr d q sz k (M pa a.toNat).toInt := by
  rw [gdF, if_pos h, if_neg h2]
theorem gd_congr {M' : xM} {pa' pn' pr' : Nat} {d' q' sz' : Int} (h1 : ∀ i, M pa i = M' pa' i) (h2 : ∀ i, M pn i = M' pn' i) (h3 : ∀ i, M pr i = M' pr' i) (h4 : d = d') (h5 : q = q') (h6 : sz = sz') : ∀ (k : Nat) (a : Int), gdF M pa pn pr d q sz k a = gdF M' pa' pn' pr' d' q' sz' k a
  | 0, _ => rfl
  | k + 1, a => by
    subst h4; subst h5; subst h6
    unfold gdF
    rw [h1, h2, h3, gd_congr h1 h2 h3 rfl rfl rfl k]
end AGD
def gdC (M : xM) (k : Nat) (a : Int) : Bool := gdF M 2 3 4 (M 1 4).toInt (M 1 5).toInt (M 1 3).toInt k a
def gdM (M : xM) (k : Nat) (a : Int) : Bool := gdF M 58 59 60 (M 61 0).toInt (M 61 1).toInt (M 56 0).toInt k a
-- ---- the class
def f22 (pc : Nat) (l2 l3 : Option aV) : List aFr := [(22, pc, [R_ 1, none, l2, l3], [])]
def g22 : aCutG := (f22 4 (vi 1) (vi 2), (3, [e0, (1, (-1, 29)), (2, (0, 24))], [], [], [], [], []))
def le_ (a b : Nat) : aL := asub (aid a) (aid b)
def lt_ (a b : Nat) : aL := aadd (aco 1) (asub (aid a) (aid b))
def x22 : List aCutG := [(f22 59 (vi 1) (vi 2), (3, [e0, (2, (24, 24))], [], [], [], [], [])),
  (f22 59 (vi 1) (vi 2), (3, [e0, (1, (-1, -1))], [], [], [], [], [])),
  (f22 59 (vi 1) (vi 2), (4, [e0], [le_ 3 1], [((1, aco 3), aid 3)], [], [], [])),
  (f22 44 (vi 1) (vi 2), (6, [e0, (1, (0, 23)), (2, (0, 23))], [lt_ 1 5, lt_ 3 4], [((1, aco 3), aid 5), ((3, aid 1), aid 3), ((1, aco 4), aid 4)], [], [], [])),
  (f22 44 (vi 1) (vi 2), (6, [e0, (1, (0, 23)), (2, (0, 23))], [lt_ 1 5, lt_ 3 4], [((1, aco 3), aid 5), ((4, aid 1), aid 3), ((1, aco 5), aid 4)], [], [], [])),
  (f22 4 (vi 8) (vk 1 2), (9, [e0, (1, (0, 23)), (2, (0, 23)), (8, (-1, 23))], [lt_ 1 5, le_ 4 3, le_ 7 6], [((1, aco 3), aid 5), ((3, aid 1), aid 3), ((1, aco 4), aid 4), ((4, aid 1), aid 6), ((1, aco 5), aid 7), ((2, aid 1), aid 8)], [], [], []))]
def ct_22e : aCt := (22, [.inr (.inr 1), .inl (-1, 29)], [], some (0, 1), ([], []))
theorem g22_0 : arunG [] [] ([], []) [(f22 4 (vi 1) (some (.inl (aco 0))), (2, [e0, (1, (-1, 29))], [], [], [], [], []))] 2 (some (1, 0)) 100 [(22, 0, axent 22 (aen ct_22e.2.1 1 [(0, (0, 2560))]).1, [])] (aK0 ct_22e) = true := by decide +kernel
theorem g22_1 : arunG [] [] ([], []) x22 3 (some (1, 0)) 100 g22.1 g22.2 = true := by decide +kernel
theorem g22_2 : (achF [(0, aid 0), (1, aid 1), (2, aco 0)] g22.1 (f22 4 (vi 1) (some (.inl (aco 0)))) && achKU [(0, aid 0), (1, aid 1), (2, aco 0)] g22.2 (2, [e0, (1, (-1, 29))], [], [], [], [], [])) = true := by decide +kernel
def sg22 : aSg := [(0, aid 0), (1, aid 8), (2, (1, [(2, 1)]))]
theorem g22_3 : (achF sg22 g22.1 (f22 4 (vi 8) (vk 1 2)) && achKU sg22 g22.2 (9, [e0, (1, (0, 23)), (2, (0, 23)), (8, (-1, 23))], [lt_ 1 5, le_ 4 3, le_ 7 6], [((1, aco 3), aid 5), ((3, aid 1), aid 3), ((1, aco 4), aid 4), ((4, aid 1), aid 6), ((1, aco 5), aid 7), ((2, aid 1), aid 8)], [], [], [])) = true := by decide +kernel
theorem le_of {ρ : Nat → Int} {a b : Nat} (h : aev ρ (le_ a b) ≤ 0) : ρ a ≤ ρ b := by
  unfold le_ at h
  rw [aev_sub, aev_id, aev_id] at h
  omega
theorem lt_of {ρ : Nat → Int} {a b : Nat} (h : aev ρ (lt_ a b) ≤ 0) : ρ a < ρ b := by
  unfold lt_ at h
  rw [aev_add, aev_co, aev_sub, aev_id, aev_id] at h
  omega
section AGC
variable {xs : Nat → Int32} {L : Nat} {M : xM} {Q : xZ → Prop} {prs : List (Nat × Nat)} {ρ : Nat → Int}
theorem cell_f {K : aKn} {fr : List aFr} {cfr : List cFr} (hS : aHS xs L prs M K ρ fr cfr) {p b k : Nat} (h : ((p, aco b), aid k) ∈ K.2.2.2.1) : (M p b).toInt = ρ k := by
  have := (hS.ce h).2
  dsimp only at this
  rw [aev_co, aev_id, Int.toNat_natCast] at this
  exact this
theorem cell_i {K : aKn} {fr : List aFr} {cfr : List cFr} (hS : aHS xs L prs M K ρ fr cfr) {p i k : Nat} (h : ((p, aid i), aid k) ∈ K.2.2.2.1) : (M p (ρ i).toNat).toInt = ρ k := by
  have := (hS.ce h).2
  dsimp only at this
  rw [aev_id, aev_id] at this
  exact this
theorem end22 {pc : Nat} {v : Int32} {pl : List (Option aV)} {K : aKn} {cfr : List cFr} (hpc : (pc = 59 ∧ v = 1) ∨ (pc = 44 ∧ v = 0)) (hS : aHS xs L prs M K ρ [(22, pc, pl, [])] cfr) (hq : Q (some (.int v), 102, xsh0, M)) : aGl xs L Q M cfr := by
  obtain ⟨plc, skc, m, e, hl, hst, hnl⟩ := afrs_cons (hS ρ (agr_refl _ _)).2
  have f2 := astkN hst
  have f3 := afrs_nil hnl
  subst f2; subst f3
  rw [e]
  rcases hpc with ⟨h1, h2⟩ | ⟨h1, h2⟩
  · subst h1; subst h2
    show PL xs L 22 (59, plc, [], 102, xsh0, M) Q
    refine PL.go (k := 1) (s' := (60, plc, [.int 1], 102, xsh0, M)) rfl ?_
    exact PL.ret (v := some (.int 1)) rfl hq
  · subst h1; subst h2
    show PL xs L 22 (44, plc, [], 102, xsh0, M) Q
    refine PL.go (k := 1) (s' := (45, plc, [.int 0], 102, xsh0, M)) rfl ?_
    exact PL.ret (v := some (.int 0)) rfl hq
theorem l22 (hL : L ≤ 2560) (hM : aInv M) : ∀ (k : Nat) (ρ : Nat → Int) (cfr : List cFr), 24 - ρ 2 = (k : Int) → Q (some (.int (b2i (gdC M k (ρ 1)))), 102, xsh0, M) → aHS xs L [] M g22.2 ρ g22.1 cfr → aGl xs L Q M cfr := by
  intro k
  induction k with
  | zero =>
    intro ρ cfr hk hq hS
    refine arunG_of (ρ0 := ρ) (g := 3) (M0 := M) prs0 hL allc0 (fun r h => aPost_no h) ?_ 100 _ _ ρ M cfr g22_1 hS hM (aUnw.refl _ M) (Nat.le_refl 3) (agr_refl _ _)
    intro c hc ρ' M' cfr' hS' hM' hU hag
    have eM : M' = M := aUnw_nil hU
    subst eM
    have e2 : ρ' 2 = ρ 2 := hag 2 (by decide)
    have hb : ∀ {K : aKn} {fr : List aFr}, aHS xs L [] M' K ρ' fr cfr' → (2, ((0 : Int), (23 : Int))) ∈ K.2.1 → aGl xs L Q M' cfr' := fun h hm => by
      have := h.bd hm
      dsimp only at this
      omega
    unfold x22 at hc
    simp only [List.mem_cons, List.not_mem_nil, or_false] at hc
    rcases hc with e | e | e | e | e | e
    · subst e; exact end22 (Or.inl ⟨rfl, rfl⟩) hS' hq
    · subst e; exact end22 (Or.inl ⟨rfl, rfl⟩) hS' hq
    · subst e; exact end22 (Or.inl ⟨rfl, rfl⟩) hS' hq
    · subst e; exact hb hS' (by decide)
    · subst e; exact hb hS' (by decide)
    · subst e; exact hb hS' (by decide)
  | succ k ih =>
    intro ρ cfr hk hq hS
    refine arunG_of (ρ0 := ρ) (g := 3) (M0 := M) prs0 hL allc0 (fun r h => aPost_no h) ?_ 100 _ _ ρ M cfr g22_1 hS hM (aUnw.refl _ M) (Nat.le_refl 3) (agr_refl _ _)
    intro c hc ρ' M' cfr' hS' hM' hU hag
    have eM : M' = M := aUnw_nil hU
    subst eM
    have e1 : ρ' 1 = ρ 1 := hag 1 (by decide)
    have e2 : ρ' 2 = ρ 2 := hag 2 (by decide)
    unfold x22 at hc
    simp only [List.mem_cons, List.not_mem_nil, or_false] at hc
    rcases hc with e | e | e | e | e | e
    · subst e
      have := hS'.bd (t := (2, (24, 24))) (by decide)
      dsimp only at this
      omega
    · subst e
      have b := hS'.bd (t := (1, (-1, -1))) (by decide)
      dsimp only at b
      have h : gdC M' (k + 1) (ρ 1) = true := gd_out (by omega)
      rw [h] at hq
      exact end22 (Or.inl ⟨rfl, rfl⟩) hS' hq
    · subst e
      have b := le_of (hS'.fa (f := le_ 3 1) (List.mem_cons_self ..))
      have c := cell_f (p := 1) (b := 3) (k := 3) hS' (List.mem_cons_self ..)
      have h : gdC M' (k + 1) (ρ 1) = true := gd_out (by omega)
      rw [h] at hq
      exact end22 (Or.inl ⟨rfl, rfl⟩) hS' hq
    · subst e
      have b1 := hS'.bd (t := (1, (0, 23))) (by decide)
      dsimp only at b1
      have f1 := lt_of (hS'.fa (f := lt_ 1 5) (List.mem_cons_self ..))
      have f2 := lt_of (hS'.fa (f := lt_ 3 4) (List.mem_cons_of_mem _ (List.mem_cons_self ..)))
      have c1 := cell_f (p := 1) (b := 3) (k := 5) hS' (List.mem_cons_self ..)
      have c2 := cell_i (p := 3) (i := 1) (k := 3) hS' (List.mem_cons_of_mem _ (List.mem_cons_self ..))
      have c3 := cell_f (p := 1) (b := 4) (k := 4) hS' (List.mem_cons_of_mem _ (List.mem_cons_of_mem _ (List.mem_cons_self ..)))
      have h : gdC M' (k + 1) (ρ 1) = false := by
        rw [← e1]
        exact gd_f ⟨by omega, by omega⟩ (Or.inl (by omega))
      rw [h] at hq
      exact end22 (Or.inr ⟨rfl, rfl⟩) hS' hq
    · subst e
      have b1 := hS'.bd (t := (1, (0, 23))) (by decide)
      dsimp only at b1
      have f1 := lt_of (hS'.fa (f := lt_ 1 5) (List.mem_cons_self ..))
      have f2 := lt_of (hS'.fa (f := lt_ 3 4) (List.mem_cons_of_mem _ (List.mem_cons_self ..)))
      have c1 := cell_f (p := 1) (b := 3) (k := 5) hS' (List.mem_cons_self ..)
      have c2 := cell_i (p := 4) (i := 1) (k := 3) hS' (List.mem_cons_of_mem _ (List.mem_cons_self ..))
      have c3 := cell_f (p := 1) (b := 5) (k := 4) hS' (List.mem_cons_of_mem _ (List.mem_cons_of_mem _ (List.mem_cons_self ..)))
      have h : gdC M' (k + 1) (ρ 1) = false := by
        rw [← e1]
        exact gd_f ⟨by omega, by omega⟩ (Or.inr (by omega))
      rw [h] at hq
      exact end22 (Or.inr ⟨rfl, rfl⟩) hS' hq
    · subst e
      have b1 := hS'.bd (t := (1, (0, 23))) (by decide)
      dsimp only at b1
      have f1 := lt_of (hS'.fa (f := lt_ 1 5) (List.mem_cons_self ..))
      have f2 := le_of (hS'.fa (f := le_ 4 3) (List.mem_cons_of_mem _ (List.mem_cons_self ..)))
      have f3 := le_of (hS'.fa (f := le_ 7 6) (List.mem_cons_of_mem _ (List.mem_cons_of_mem _ (List.mem_cons_self ..))))
      have c1 := cell_f (p := 1) (b := 3) (k := 5) hS' (List.mem_cons_self ..)
      have c2 := cell_i (p := 3) (i := 1) (k := 3) hS' (List.mem_cons_of_mem _ (List.mem_cons_self ..))
      have c3 := cell_f (p := 1) (b := 4) (k := 4) hS' (List.mem_cons_of_mem _ (List.mem_cons_of_mem _ (List.mem_cons_self ..)))
      have c4 := cell_i (p := 4) (i := 1) (k := 6) hS' (List.mem_cons_of_mem _ (List.mem_cons_of_mem _ (List.mem_cons_of_mem _ (List.mem_cons_self ..))))
      have c5 := cell_f (p := 1) (b := 5) (k := 7) hS' (List.mem_cons_of_mem _ (List.mem_cons_of_mem _ (List.mem_cons_of_mem _ (List.mem_cons_of_mem _ (List.mem_cons_self ..)))))
      have c6 := cell_i (p := 2) (i := 1) (k := 8) hS' (List.mem_cons_of_mem _ (List.mem_cons_of_mem _ (List.mem_cons_of_mem _ (List.mem_cons_of_mem _ (List.mem_cons_of_mem _ (List.mem_cons_self ..))))))
      have h : gdC M' (k + 1) (ρ 1) = gdC M' k (M' 2 (ρ' 1).toNat).toInt := by
        rw [← e1]
        exact gd_n ⟨by omega, by omega⟩ (by omega)
      obtain ⟨ρc, hSc, hρc⟩ := aconv sg22 g22_3 hS'
      have q1 : ρc 1 = ρ' 8 := (hρc 1 (aid 8) rfl).trans aev_id
      have q2 : ρc 2 = 1 + ρ' 2 := (hρc 2 (1, [(2, 1)]) rfl).trans aev_s
      refine ih ρc cfr' (by omega) ?_ hSc
      rw [q1, ← c6, ← h]
      exact hq
theorem f22_ (hL : L ≤ 2560) (hM : aInv M) (hR : aRk M) {m : Int32} (hm : -1 ≤ m.toInt ∧ m.toInt ≤ 29) (hq : Q (some (.int (b2i (gdC M 24 m.toInt))), 102, xsh0, M)) : PL xs L 22 (0, xent 22 [.ref 1, .int m], [], 102, xsh0, M) Q := by
  obtain ⟨ρ2, hS⟩ := aentry (xs := xs) (c := ct_22e) (as := [.ref 1, .int m]) hL hR ⟨rfl, hm, trivial⟩
  have hl : aloc ρ2 [R_ 1, vi 1, none, none] [some (.ref 1), some (.int m), none, none] := (hS ρ2 (agr_refl _ _)).2.1.2.2.1
  have hs1 : m.toInt = ρ2 1 := (show m.toInt = aev ρ2 (aid 1) from hl.2.1).trans aev_id
  show aGl xs L Q M [(22, 0, xent 22 [.ref 1, .int m], [])]
  refine arunG_of (ρ0 := ρ2) (g := 2) (M0 := M) prs0 hL allc0 (fun r h => aPost_no h) ?_ 100 _ _ ρ2 M _ g22_0 hS hM (aUnw.refl _ M) (by decide) (agr_refl _ _)
  intro c hc ρ' M' cfr' hS' hM' hU hag
  have ec := List.mem_singleton.mp hc
  subst ec
  have eM : M' = M := aUnw_nil hU
  subst eM
  have e1 : ρ' 1 = ρ2 1 := hag 1 (by decide)
  obtain ⟨ρc, hSc, hρc⟩ := aconv [(0, aid 0), (1, aid 1), (2, aco 0)] g22_2 hS'
  have q1 : ρc 1 = ρ' 1 := (hρc 1 (aid 1) rfl).trans aev_id
  have q2 : ρc 2 = 0 := (hρc 2 (aco 0) rfl).trans aev_co
  refine l22 hL hM' 24 ρc cfr' (by rw [q2]; rfl) ?_ hSc
  rw [q1, e1, ← hs1]
  exact hq
end AGC
-- ---- the reference
def f159 (pc : Nat) (l2 l3 : Option aV) (st : List aV) : List aFr := [(159, pc, [R_ 56, none, l2, l3], st)]
def y159 (l : Option aV) (E : aE) (F : List aL) (C : aC) : aCutG := (f159 4 l (vi 5) [], (6, e0 :: (1, (0, 23)) :: (5, (-1, 23)) :: E, F, ((58, aid 1), aid 5) :: C, [], [], []))
def z_ : Option aV := some (.inl (aco 0))
def o_ : Option aV := some (.inl (aco 1))
def x159 : List aCutG := [(f159 60 (vi 2) (vi 1) [.inl (aid 2)], (3, [e0, (1, (-1, -1)), (2, (0, 1))], [], [], [], [], [])),
  y159 z_ [(2, (0, 0))] [] [],
  y159 z_ [] [lt_ 3 4] [((59, aid 1), aid 3), ((61, aco 0), aid 4)],
  y159 z_ [] [lt_ 3 4] [((60, aid 1), aid 3), ((61, aco 1), aid 4)],
  (f159 4 o_ (vi 5) [], (8, [e0, (1, (0, 23)), (5, (-1, 23)), (2, (1, 1))], [le_ 4 3, le_ 7 6], [((58, aid 1), aid 5), ((59, aid 1), aid 3), ((61, aco 0), aid 4), ((60, aid 1), aid 6), ((61, aco 1), aid 7)], [], [], []))]
theorem g159_1 : arunG [] [] ([], []) x159 3 (some (1, 0)) 100 c159.1 c159.2 = true := by decide +kernel
def sgz : aSg := [(0, aid 0), (1, aid 5), (2, aco 0)]
def sgo : aSg := [(0, aid 0), (1, aid 5), (2, aco 1)]
theorem g159_2 : (achF sgz c159.1 (y159 z_ [(2, (0, 0))] [] []).1 && achKU sgz c159.2 (y159 z_ [(2, (0, 0))] [] []).2) = true := by decide +kernel
theorem g159_3 : (achF sgz c159.1 (y159 z_ [] [lt_ 3 4] [((59, aid 1), aid 3), ((61, aco 0), aid 4)]).1 && achKU sgz c159.2 (y159 z_ [] [lt_ 3 4] [((59, aid 1), aid 3), ((61, aco 0), aid 4)]).2) = true := by decide +kernel
theorem g159_4 : (achF sgz c159.1 (y159 z_ [] [lt_ 3 4] [((60, aid 1), aid 3), ((61, aco 1), aid 4)]).1 && achKU sgz c159.2 (y159 z_ [] [lt_ 3 4] [((60, aid 1), aid 3), ((61, aco 1), aid 4)]).2) = true := by decide +kernel
theorem g159_5 : (achF sgo c159.1 (f159 4 o_ (vi 5) []) && achKU sgo c159.2 (8, [e0, (1, (0, 23)), (5, (-1, 23)), (2, (1, 1))], [le_ 4 3, le_ 7 6], [((58, aid 1), aid 5), ((59, aid 1), aid 3), ((61, aco 0), aid 4), ((60, aid 1), aid 6), ((61, aco 1), aid 7)], [], [], [])) = true := by decide +kernel
theorem g159_0 : arunG [] [] ([], []) [(f159 4 o_ (vi 1) [], (2, [e0, (1, (0, 23))], [], [], [], [], []))] 2 (some (1, 0)) 100 [(159, 0, axent 159 (aen ct_159a.2.1 1 [(0, (0, 2560))]).1, [])] (aK0 ct_159a) = true := by decide +kernel
theorem g159_6 : (achF [(0, aid 0), (1, aid 1), (2, aco 1)] c159.1 (f159 4 o_ (vi 1) []) && achKU [(0, aid 0), (1, aid 1), (2, aco 1)] c159.2 (2, [e0, (1, (0, 23))], [], [], [], [], [])) = true := by decide +kernel
section AGM
variable {xs : Nat → Int32} {L : Nat} {M : xM} {Q : xZ → Prop}
theorem l159f (hL : L ≤ 2560) (hM : aInv M) : ∀ (n : Nat) (ρ : Nat → Int) (cfr : List cFr) (k : Nat), (ρ 1 + 1).toNat = n → ρ 1 < (k : Int) → ρ 1 < (M 56 0).toInt → Q (some (.int (b2i (decide (ρ 2 = 1) && gdM M k (ρ 1)))), 102, xsh0, M) → aHS xs L [] M c159.2 ρ c159.1 cfr → aGl xs L Q M cfr := by
  intro n
  induction n using Nat.strongRecOn with
  | _ n ih =>
    intro ρ cfr k hn hk hsz hq hS
    refine arunG_of (ρ0 := ρ) (g := 3) (M0 := M) prs0 hL allc0 (fun r h => aPost_no h) ?_ 100 _ _ ρ M cfr g159_1 hS hM (aUnw.refl _ M) (Nat.le_refl 3) (agr_refl _ _)
    intro c hc ρ' M' cfr' hS' hM' hU hag
    have eM : M' = M := aUnw_nil hU
    subst eM
    have e1 : ρ' 1 = ρ 1 := hag 1 (by decide)
    have e2 : ρ' 2 = ρ 2 := hag 2 (by decide)
    have down : 0 ≤ ρ' 1 → (M' 58 (ρ' 1).toNat).toInt = ρ' 5 → ρ' 5 < ρ' 1 := fun h0 h5 => by
      rw [← h5]
      by_cases hz : ρ' 1 = 0
      · rw [hz]
        exact hM.2.2.2.2.1 (by omega)
      · have := hM.2.2.2.1 (ρ' 1).toNat (by omega)
        omega
    have go0 : ∀ {K : aKn} {fr : List aFr}, aHS xs L [] M' K ρ' fr cfr' → (achF sgz c159.1 fr && achKU sgz c159.2 K) = true → 0 ≤ ρ' 1 → (M' 58 (ρ' 1).toNat).toInt = ρ' 5 → -1 ≤ ρ' 5 → Q (some (.int 0), 102, xsh0, M') → aGl xs L Q M' cfr' := fun hK hr h0 h5 h6 hq0 => by
      have hd := down h0 h5
      obtain ⟨ρc, hSc, hρc⟩ := aconv sgz hr hK
      have q1 : ρc 1 = ρ' 5 := (hρc 1 (aid 5) rfl).trans aev_id
      have q2 : ρc 2 = 0 := (hρc 2 (aco 0) rfl).trans aev_co
      refine ih (ρc 1 + 1).toNat (by omega) ρc cfr' k rfl (by omega) (by omega) ?_ hSc
      rw [q2]
      exact hq0
    unfold x159 at hc
    simp only [List.mem_cons, List.not_mem_nil, or_false] at hc
    rcases hc with e | e | e | e | e
    · subst e
      have b1 := hS'.bd (t := (1, (-1, -1))) (by decide)
      have b2 := hS'.bd (t := (2, (0, 1))) (by decide)
      dsimp only at b1 b2
      refine ret_z (y := 159) (pc := 60) rfl rfl hS' (by rw [aev_id]; omega) (fun x hx => ?_)
      rw [aev_id] at hx
      have hg : gdM M' k (ρ 1) = true := gd_out (by omega)
      rw [hg, Bool.and_true] at hq
      by_cases h1 : ρ 2 = 1
      · rw [decide_eq_true h1] at hq
        have : x = 1 := Int32.toInt_inj.mp (by show x.toInt = 1; omega)
        subst this
        exact hq
      · rw [decide_eq_false h1] at hq
        have : x = 0 := Int32.toInt_inj.mp (by show x.toInt = 0; omega)
        subst this
        exact hq
    · subst e
      have b1 := hS'.bd (t := (1, (0, 23))) (List.mem_cons_of_mem _ (List.mem_cons_self ..))
      have b5 := hS'.bd (t := (5, (-1, 23))) (List.mem_cons_of_mem _ (List.mem_cons_of_mem _ (List.mem_cons_self ..)))
      have b2 := hS'.bd (t := (2, (0, 0))) (List.mem_cons_of_mem _ (List.mem_cons_of_mem _ (List.mem_cons_of_mem _ (List.mem_cons_self ..))))
      dsimp only at b1 b5 b2
      have c5 := cell_i (p := 58) (i := 1) (k := 5) hS' (List.mem_cons_self ..)
      refine go0 hS' g159_2 b1.1 c5 b5.1 ?_
      rw [decide_eq_false (by omega)] at hq
      exact hq
    · subst e
      have b1 := hS'.bd (t := (1, (0, 23))) (List.mem_cons_of_mem _ (List.mem_cons_self ..))
      have b5 := hS'.bd (t := (5, (-1, 23))) (List.mem_cons_of_mem _ (List.mem_cons_of_mem _ (List.mem_cons_self ..)))
      dsimp only at b1 b5
      have c5 := cell_i (p := 58) (i := 1) (k := 5) hS' (List.mem_cons_self ..)
      have c3 := cell_i (p := 59) (i := 1) (k := 3) hS' (List.mem_cons_of_mem _ (List.mem_cons_self ..))
      have c4 := cell_f (p := 61) (b := 0) (k := 4) hS' (List.mem_cons_of_mem _ (List.mem_cons_of_mem _ (List.mem_cons_self ..)))
      have f1 := lt_of (hS'.fa (f := lt_ 3 4) (List.mem_cons_self ..))
      refine go0 hS' g159_3 b1.1 c5 b5.1 ?_
      obtain ⟨k', rfl⟩ : ∃ k', k = k' + 1 := ⟨k - 1, by omega⟩
      have hg : gdM M' (k' + 1) (ρ 1) = false := by
        rw [← e1]
        exact gd_f ⟨by omega, by omega⟩ (Or.inl (by omega))
      rw [hg, Bool.and_false] at hq
      exact hq
    · subst e
      have b1 := hS'.bd (t := (1, (0, 23))) (List.mem_cons_of_mem _ (List.mem_cons_self ..))
      have b5 := hS'.bd (t := (5, (-1, 23))) (List.mem_cons_of_mem _ (List.mem_cons_of_mem _ (List.mem_cons_self ..)))
      dsimp only at b1 b5
      have c5 := cell_i (p := 58) (i := 1) (k := 5) hS' (List.mem_cons_self ..)
      have c3 := cell_i (p := 60) (i := 1) (k := 3) hS' (List.mem_cons_of_mem _ (List.mem_cons_self ..))
      have c4 := cell_f (p := 61) (b := 1) (k := 4) hS' (List.mem_cons_of_mem _ (List.mem_cons_of_mem _ (List.mem_cons_self ..)))
      have f1 := lt_of (hS'.fa (f := lt_ 3 4) (List.mem_cons_self ..))
      refine go0 hS' g159_4 b1.1 c5 b5.1 ?_
      obtain ⟨k', rfl⟩ : ∃ k', k = k' + 1 := ⟨k - 1, by omega⟩
      have hg : gdM M' (k' + 1) (ρ 1) = false := by
        rw [← e1]
        exact gd_f ⟨by omega, by omega⟩ (Or.inr (by omega))
      rw [hg, Bool.and_false] at hq
      exact hq
    · subst e
      have b1 := hS'.bd (t := (1, (0, 23))) (by decide)
      have b5 := hS'.bd (t := (5, (-1, 23))) (by decide)
      have b2 := hS'.bd (t := (2, (1, 1))) (by decide)
      dsimp only at b1 b5 b2
      have c5 := cell_i (p := 58) (i := 1) (k := 5) hS' (List.mem_cons_self ..)
      have c3 := cell_i (p := 59) (i := 1) (k := 3) hS' (List.mem_cons_of_mem _ (List.mem_cons_self ..))
      have c4 := cell_f (p := 61) (b := 0) (k := 4) hS' (List.mem_cons_of_mem _ (List.mem_cons_of_mem _ (List.mem_cons_self ..)))
      have c6 := cell_i (p := 60) (i := 1) (k := 6) hS' (List.mem_cons_of_mem _ (List.mem_cons_of_mem _ (List.mem_cons_of_mem _ (List.mem_cons_self ..))))
      have c7 := cell_f (p := 61) (b := 1) (k := 7) hS' (List.mem_cons_of_mem _ (List.mem_cons_of_mem _ (List.mem_cons_of_mem _ (List.mem_cons_of_mem _ (List.mem_cons_self ..)))))
      have f1 := le_of (hS'.fa (f := le_ 4 3) (List.mem_cons_self ..))
      have f2 := le_of (hS'.fa (f := le_ 7 6) (List.mem_cons_of_mem _ (List.mem_cons_self ..)))
      have hd := down b1.1 c5
      obtain ⟨k', rfl⟩ : ∃ k', k = k' + 1 := ⟨k - 1, by omega⟩
      have hg : gdM M' (k' + 1) (ρ 1) = gdM M' k' (M' 58 (ρ' 1).toNat).toInt := by
        rw [← e1]
        exact gd_n ⟨by omega, by omega⟩ (by omega)
      obtain ⟨ρc, hSc, hρc⟩ := aconv sgo g159_5 hS'
      have q1 : ρc 1 = ρ' 5 := (hρc 1 (aid 5) rfl).trans aev_id
      have q2 : ρc 2 = 1 := (hρc 2 (aco 1) rfl).trans aev_co
      refine ih (ρc 1 + 1).toNat (by omega) ρc cfr' k' rfl (by omega) (by omega) ?_ hSc
      rw [hg, decide_eq_true (by omega), c5] at hq
      rw [q2, q1]
      exact hq
theorem f159_ (hL : L ≤ 2560) (hM : aInv M) (hR : aRk M) {m : Int32} (hm : 0 ≤ m.toInt ∧ m.toInt < (M 56 0).toInt) (hq : Q (some (.int (b2i (gdM M 24 m.toInt))), 102, xsh0, M)) : PL xs L 159 (0, xent 159 [.ref 56, .int m], [], 102, xsh0, M) Q := by
  have hsz := hM.1.2 56 0 (0, 24) rfl
  dsimp only at hsz
  obtain ⟨ρ2, hS⟩ := aentry (xs := xs) (c := ct_159a) (as := [.ref 56, .int m]) hL hR ⟨rfl, (show (0 : Int) ≤ m.toInt ∧ m.toInt ≤ 23 by omega), trivial⟩
  have hl : aloc ρ2 [R_ 56, vi 1, none, none] [some (.ref 56), some (.int m), none, none] := (hS ρ2 (agr_refl _ _)).2.1.2.2.1
  have hs1 : m.toInt = ρ2 1 := (show m.toInt = aev ρ2 (aid 1) from hl.2.1).trans aev_id
  show aGl xs L Q M [(159, 0, xent 159 [.ref 56, .int m], [])]
  refine arunG_of (ρ0 := ρ2) (g := 2) (M0 := M) prs0 hL allc0 (fun r h => aPost_no h) ?_ 100 _ _ ρ2 M _ g159_0 hS hM (aUnw.refl _ M) (by decide) (agr_refl _ _)
  intro c hc ρ' M' cfr' hS' hM' hU hag
  have ec := List.mem_singleton.mp hc
  subst ec
  have eM : M' = M := aUnw_nil hU
  subst eM
  have e1 : ρ' 1 = ρ2 1 := hag 1 (by decide)
  obtain ⟨ρc, hSc, hρc⟩ := aconv [(0, aid 0), (1, aid 1), (2, aco 1)] g159_6 hS'
  have q1 : ρc 1 = ρ' 1 := (hρc 1 (aid 1) rfl).trans aev_id
  have q2 : ρc 2 = 1 := (hρc 2 (aco 1) rfl).trans aev_co
  refine l159f hL hM' _ ρc cfr' 24 rfl (by omega) (by omega) ?_ hSc
  rw [q2, q1, e1, ← hs1]
  exact hq
end AGM
