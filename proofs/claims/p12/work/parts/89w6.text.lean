/-! TEXTS, of the reference -/
def p174 (m t k : Int) : List (Option aV) := [R_ 56, some (.inl (aco m)), some (.inr (.inl (some (aco t)))), none, some (.inl (aco k))]
def fr174 (pc : Nat) (m t k : Int) (st : List aV) : List aFr := [(174, pc, p174 m t k, st)]
/-- a letter that is known beforehand: on to the comparison, and over it -/
def hop174 (m t k c : Int) (K : aKn) (l A B : aL) : Bool := arunG [] [] ([], []) [(fr174 21 m t k [.inl l], K)] 6 (some (1, 0)) 100 (fr174 5 m t k []) K && (arunG [] [] wM [cE (fr174 5 m t (k - 1) []) A B] 6 (some (1, 0)) 100 (fr174 34 m t k [.inr (.inr (.inr (l, aco c)))]) K && arunG [] [] ([], []) [(fr174 5 m t (k - 1) [], k1_)] 1 (some (1, 0)) 10 (fr174 5 m t (k - 1) []) (cE (fr174 5 m t (k - 1) []) A B).2)
def num174 (t k c : Int) : Bool := decide (((Int64.ofInt t >>> (((8 : Int32) * Int32.ofInt k).toInt64 &&& 63)) &&& Int64.ofNat 255).toInt = c) && decide ((Int64.ofInt t).toInt = t ∧ (Int32.ofInt k).toInt = k)
def ok174 (m t k c : Int) : Bool := num174 t k c && (arunG [] [] ([], []) [(fr174 64 m t k [], k1_)] 1 (some (1, 0)) 100 (fr174 5 m t k []) (kV k1_ (0, 121)) && (hop174 m t k c (k1b k1_ (-1, -1) (0, 255) [le_ 1 2]) (aco (-1)) (aid 2) (aid 2) && (hop174 m t k c (k1b k1_ (-1, -1) (0, c - 1) [lt_ 2 1]) (aid 5) (aid 2) (aid 2) && (hop174 m t k c (k1b k1_ (-1, -1) (c + 1, 255) [lt_ 2 1]) (aid 5) (aid 2) (aid 2) && hop174 m t k c (k1b k1_ (-1, -1) (c, c) [lt_ 2 1]) (aid 5) (1, [(2, 1)]) (aid 3)))))
def s174 (m t : Int) (cs : List Int) : Bool := arunG [] [] ([], []) [(fr174 5 m t (cs.length - 1) [], k1_)] 1 (some (1, 0)) 100 [(174, 0, [R_ 56, some (.inl (aco m)), some (.inr (.inl (some (aco t)))), none, none], [])] k1_ && (arunG [] [] ([], []) [(fr174 64 m t (-1) [], k1_)] 1 (some (1, 0)) 100 (fr174 5 m t (-1) []) k1_ && (List.range cs.length).all (fun i => ok174 m t (cs.length - 1 - i) (cs.getD i 0) && (ileb 0 (cs.getD i 0))))
theorem alo1L {ρ : Nat → Int} {l : aL} {v : Option Value} (h : alo1 ρ (some (.inr (.inl (some l)))) v) : ∃ u : Int64, v = some (.long u) ∧ u.toInt = aev ρ l := by
  match v, h with
  | some (.long u), h => exact ⟨u, rfl, h⟩
section AWT
variable {xs : Nat → Int32} {L : Nat} {ρ : Nat → Int} {M : xM} {Q : xZ → Prop}
theorem x174 {v0 v1 v3 : Option Value} {u : Int64} {k' x : Int32} (kk : PL xs L 174 (34, [v0, v1, some (.long u), v3, some (.int k')], [.int (lg_cmp x.toInt64 ((u >>> (((8 : Int32) * k').toInt64 &&& 63)) &&& Int64.ofNat 255))], 102, xsh0, M) Q) : PL xs L 174 (21, [v0, v1, some (.long u), v3, some (.int k')], [.int x], 102, xsh0, M) Q := PL.go (k := 9) rfl kk
theorem hop_ (hL : L ≤ 2560) {m t k c : Int} {K : aKn} {l A B : aL} {cfr : List cFr} (ok : hop174 m t k c K l A B = true) (hK : Nat.ble 6 K.1 = true) (hn : num174 t k c = true) (hS : aHS xs L [] M K ρ (fr174 5 m t k []) cfr) (hM : aInv M) (kk : ∀ (ρ2 ρ' : Nat → Int) (M' : xM) (cfr' : List cFr), aHS xs L [] M' k1_ ρ' (fr174 5 m t (k - 1) []) cfr' → aInv M' → aRk M' → aUnw wM M M' → agr 6 ρ ρ2 → (M' 56 26).toInt = aev ρ2 A → (M' 56 27).toInt = aev ρ2 B → aGl xs L Q M' cfr') : aGl xs L Q M cfr := by
  unfold hop174 at ok
  rw [Bool.and_eq_true, Bool.and_eq_true] at ok
  obtain ⟨o1, o2, o3⟩ := ok
  unfold num174 at hn
  rw [Bool.and_eq_true] at hn
  have hn1 := of_decide_eq_true hn.1
  have hn2 := of_decide_eq_true hn.2
  refine seg prs0 allc0 hL o1 hK hS hM (fun ρ1 M1 cfr1 hS1 hM1 hU1 hag1 => ?_)
  have eM := aUnw_nil hU1
  subst eM
  obtain ⟨plc, skc, mm, e, hl, hst, hnl⟩ := afrs_cons (hS1 ρ1 (agr_refl _ _)).2
  obtain ⟨v0, w0, e0', a0, hl⟩ := alocC hl
  obtain ⟨v1, w1, e1', a1, hl⟩ := alocC hl
  obtain ⟨v2, w2, e2', a2, hl⟩ := alocC hl
  obtain ⟨v3, w3, e3', a3, hl⟩ := alocC hl
  obtain ⟨v4, w4, e4', a4, hl⟩ := alocC hl
  have e5' := alocN hl
  obtain ⟨u, b2, d2⟩ := alo1L a2
  obtain ⟨k', b4, d4⟩ := alo1I a4
  obtain ⟨s0, w5, e6', a5, hst⟩ := astkC hst
  have e7' := astkN hst
  obtain ⟨x, b5, d5⟩ := avalI a5
  have e8' := afrs_nil hnl
  subst b2; subst b4; subst b5; subst e8'; subst e7'; subst e6'; subst e5'; subst e4'; subst e3'; subst e2'; subst e1'; subst e0'
  rw [aev_co] at d2 d4
  have eu : u = Int64.ofInt t := Int64.toInt_inj.mp (d2.trans hn2.1.symm)
  have ek : k' = Int32.ofInt k := Int32.toInt_inj.mp (d4.trans hn2.2.symm)
  rw [e]
  show PL xs L 174 (21, [v0, v1, some (.long u), v3, some (.int k')], [.int x], 102, xsh0, M1) _
  refine x174 ?_
  have hS2 : aHS xs L [] M1 K ρ1 (fr174 34 m t k [.inr (.inr (.inr (l, aco c)))]) [(174, 34, [v0, v1, some (.long u), v3, some (.int k')], [.int (lg_cmp x.toInt64 ((u >>> (((8 : Int32) * k').toInt64 &&& 63)) &&& Int64.ofNat 255))])] := by
    intro ρ' hρ
    have h := hS1 ρ' hρ
    rw [e] at h
    have hx : x.toInt = aev ρ' l := h.2.1.2.2.2.1
    refine ⟨h.1, ⟨rfl, rfl, h.2.1.2.2.1, ⟨_, _, rfl, ?_, ?_⟩, trivial⟩, trivial⟩
    · rw [Int32.toInt_toInt64]
      exact hx
    · rw [eu, ek, aev_co]
      exact hn1
  show aGl xs L Q M1 [(174, 34, [v0, v1, some (.long u), v3, some (.int k')], [.int (lg_cmp x.toInt64 ((u >>> (((8 : Int32) * k').toInt64 &&& 63)) &&& Int64.ofNat 255))])]
  refine seg prs0 allc0 hL o2 hK hS2 hM (fun ρ3 M3 cfr3 hS3 hM3 hU3 hag3 => ?_)
  obtain ⟨c1, c2⟩ := cE_of hS3
  refine seg prs0 allc0 hL o3 rfl hS3 hM3 (fun ρ4 M4 cfr4 hS4 hM4 hU4 hag4 => ?_)
  have eM := aUnw_nil hU4
  subst eM
  exact kk ρ3 ρ4 M4 cfr4 hS4 hM3 (hS4.rk rfl) hU3 (agr_trans (Nat.le_refl _) hag1 hag3) c1 c2
/-- the loop: i letters are read, n are left -/
theorem l174 (hL : L ≤ 2560) {m t : Int} {cs : List Int} (ok1 : arunG [] [] ([], []) [(fr174 64 m t (-1) [], k1_)] 1 (some (1, 0)) 100 (fr174 5 m t (-1) []) k1_ = true) (ok2 : (List.range cs.length).all (fun i => ok174 m t (cs.length - 1 - i) (cs.getD i 0) && (ileb 0 (cs.getD i 0))) = true) {M0 : xM} (hQ : ∀ M', aInv M' → aRk M' → lOk M' → aUnw wM M0 M' → mS M' = txt (mB M0) (mT M0) cs (mS M0) → Q (none, 102, xsh0, M')) : ∀ (n i : Nat) (M : xM) (ρ : Nat → Int) (cfr : List cFr), i + n = cs.length → aInv M → aRk M → lOk M → aUnw wM M0 M → txt (mB M0) (mT M0) (cs.drop i) (mS M) = txt (mB M0) (mT M0) cs (mS M0) → aHS xs L [] M k1_ ρ (fr174 5 m t ((n : Int) - 1) []) cfr → aGl xs L Q M cfr := by
  have hcs : ∀ c ∈ cs, c ≠ -1 := fun c hc => by
    obtain ⟨i, hi, ei⟩ := List.getElem_of_mem hc
    have h := List.all_eq_true.mp ok2 i (List.mem_range.mpr hi)
    rw [Bool.and_eq_true, ileb_iff, List.getD_eq_getElem?_getD, List.getElem?_eq_getElem hi] at h
    have h2 : 0 ≤ cs[i] := h.2
    omega
  intro n
  induction n with
  | zero =>
    intro i M ρ cfr hi hM hR hk hU hx hS
    have hi : i = cs.length := by omega
    subst hi
    rw [List.drop_length] at hx
    refine seg prs0 allc0 hL ok1 rfl hS hM (fun ρ1 M1 cfr1 hS1 hM1 hU1 hag1 => ?_)
    have eM := aUnw_nil hU1
    subst eM
    exact ret_v (y := 174) (pc := 64) rfl rfl hS1 (hQ M1 hM hR hk hU hx)
  | succ n ih =>
    intro i M ρ cfr hi hM hR hk hU hx hS
    have hlt : i < cs.length := by omega
    have hok := List.all_eq_true.mp ok2 i (List.mem_range.mpr hlt)
    rw [Bool.and_eq_true, ileb_iff] at hok
    have hc0 := hok.2
    have hok := hok.1
    have eidx : ((n + 1 : Nat) : Int) - 1 = (cs.length : Int) - 1 - i := by omega
    rw [eidx] at hS
    have en : ((n : Nat) : Int) - 1 = (cs.length : Int) - 1 - i - 1 := by omega
    have edr : txt (mB M0) (mT M0) (cs.drop i) (mS M) = txt (mB M0) (mT M0) (cs.drop (i + 1)) (sgn (mB M0) (mT M0) (cs.getD i 0) (mS M)) := by
      rw [List.drop_eq_getElem_cons hlt, List.getD_eq_getElem?_getD, List.getElem?_eq_getElem hlt]
      rfl
    rw [edr] at hx
    unfold ok174 at hok
    rw [Bool.and_eq_true, Bool.and_eq_true, Bool.and_eq_true, Bool.and_eq_true, Bool.and_eq_true] at hok
    obtain ⟨hnum, o1, o2, o3, o4, o5⟩ := hok
    have hB := wM_B hU
    have hT0 := wM_T hU
    have h26 := hM.1.2 56 26 (0, 121) rfl
    have h27 := hM.1.2 56 27 (-1, 121) rfl
    dsimp only at h26 h27
    have hbb := mB_b (M := M) (i := (M 56 26).toInt.toNat)
    rcases mS_3 hM with ⟨hf, es⟩ | ⟨hf, es⟩
    · obtain ⟨ρ2, hS2, -, g1, g2, g3⟩ := kV_of (K := k1_) (q := (0, 121)) hM ⟨hf, h27.2⟩ hS
      refine seg prs0 allc0 hL o1 rfl hS2 hM (fun ρ3 M3 cfr3 hS3 hM3 hU3 hag => ?_)
      have eM := aUnw_nil hU3
      subst eM
      refine ret_v (y := 174) (pc := 64) rfl rfl hS3 (hQ M3 hM hR hk hU ?_)
      rw [← hx, es, sgn_f (by omega), txt_f (fun c hc => hcs c (List.mem_of_mem_drop hc))]
    · have step : ∀ {qm : Int × Int} {F : List aL} {l A B : aL}, hop174 m t ((cs.length : Int) - 1 - i) (cs.getD i 0) (k1b k1_ (-1, -1) qm F) l A B = true → qm.1 ≤ mB M (M 56 26).toInt.toNat ∧ mB M (M 56 26).toInt.toNat ≤ qm.2 → F.all (awl 6) = true → (∀ ρ' : Nat → Int, ρ' 1 = mT M → ρ' 2 = (M 56 26).toInt → ∀ f ∈ F, aev ρ' f ≤ 0) → (∀ (ρ2 : Nat → Int) (M' : xM), ρ2 2 = (M 56 26).toInt → ρ2 3 = -1 → (M' 56 26).toInt = aev ρ2 A → (M' 56 27).toInt = aev ρ2 B → mS M' = sgn (mB M0) (mT M0) (cs.getD i 0) (mS M)) → aGl xs L Q M cfr := by
        intro qm F l A B hr hqm hw hF hend
        obtain ⟨ρ2, hS2, -, g1, g2, g3⟩ := k1b_of (K := k1_) (q := (-1, -1)) (qm := qm) (F := F) hM (by dsimp only; omega) hqm hw (fun ρ' a1 a2 a3 f hf => hF ρ' a1 a2 f hf) hS
        have g2 : ρ2 2 = (M 56 26).toInt := g2
        have g3 : ρ2 3 = (M 56 27).toInt := g3
        refine hop_ hL hr rfl hnum hS2 hM (fun ρ3 ρ4 M4 cfr4 hS4 hM4 hR4 hU4 hag c1 c2 => ?_)
        rw [← en] at hS4
        refine ih (i + 1) M4 ρ4 cfr4 (by omega) hM4 hR4 (wM_ok hU4 hk) (hU.trans hU4) ?_ hS4
        rw [hend ρ3 M4 ((hag 2 (by decide)).trans g2) (((hag 3 (by decide)).trans g3).trans hf) c1 c2]
        exact hx
      have bad : nxt (mB M) (mT M) ((M 56 26).toInt, false) ≠ cs.getD i 0 → ∀ (ρ2 : Nat → Int) (M' : xM), ρ2 2 = (M 56 26).toInt → ρ2 3 = -1 → (M' 56 26).toInt = aev ρ2 (aid 2) → (M' 56 27).toInt = aev ρ2 (aid 2) → mS M' = sgn (mB M0) (mT M0) (cs.getD i 0) (mS M) := by
        intro hne ρ2 M' a1 a2 c1 c2
        rw [aev_id] at c2
        rw [es, ← hB, ← hT0, sgn, if_neg hne, mS_f (c2.trans a1) h26.1]
      by_cases hT : (M 56 26).toInt < mT M
      · have hnx := nxt_b (b := mB M) hT
        by_cases u1 : mB M (M 56 26).toInt.toNat ≤ cs.getD i 0 - 1
        · exact step o3 ⟨hbb.1, u1⟩ rfl (fun ρ' a1 a2 => f1_lt a1 a2 hT) (bad (by rw [hnx]; omega))
        · by_cases u2 : cs.getD i 0 + 1 ≤ mB M (M 56 26).toInt.toNat
          · exact step o4 ⟨u2, hbb.2⟩ rfl (fun ρ' a1 a2 => f1_lt a1 a2 hT) (bad (by rw [hnx]; omega))
          · refine step o5 (by dsimp only; omega) rfl (fun ρ' a1 a2 => f1_lt a1 a2 hT) (fun ρ2 M' a1 a2 c1 c2 => ?_)
            rw [aev_s] at c1
            rw [aev_id] at c2
            rw [es, ← hB, ← hT0, sgn, if_pos (by rw [hnx]; omega), mS_n (a := (M 56 26).toInt + 1) (by omega) (by omega)]
      · have hnx := nxt_e (b := mB M) (show mT M ≤ (M 56 26).toInt by omega)
        exact step o2 hbb rfl (fun ρ' a1 a2 => f1_le a1 a2 (by omega)) (bad (by rw [hnx]; omega))
theorem f174_ (hL : L ≤ 2560) {m t : Int} {cs : List Int} (ok : s174 m t cs = true) {x : Int32} {u : Int64} (hx : x.toInt = m) (hu : u.toInt = t) : mOp xs L 174 [.ref 56, .int x, .long u] (fun b T s => txt b T cs s) (fun v => v = none) := by
  unfold s174 at ok
  rw [Bool.and_eq_true, Bool.and_eq_true] at ok
  intro M Q hM hR hk hQ
  have hS0 : aHS xs L [] M k1_ (fun _ => (L : Int)) [(174, 0, [R_ 56, some (.inl (aco m)), some (.inr (.inl (some (aco t)))), none, none], [])] [(174, 0, xent 174 [.ref 56, .int x, .long u], [])] := by
    intro ρ' h
    have h0 : ρ' 0 = (L : Int) := h 0 (by decide)
    refine ⟨⟨by decide, h0, fun t ht => ?_, fun f hf => (by cases hf), fun q hq => (by cases hq), fun q hq => (by cases hq), fun j pr hj => (by cases hj), fun j r hj i => Or.inl (hR j r hj i)⟩, ⟨rfl, rfl, ⟨rfl, ?_, ?_, trivial, trivial, trivial⟩, trivial⟩, trivial⟩
    · have et := List.mem_singleton.mp ht
      subst et
      show (0 : Int) ≤ ρ' 0 ∧ ρ' 0 ≤ 2560
      omega
    · show x.toInt = aev ρ' (aco m)
      rw [aev_co]
      exact hx
    · show u.toInt = aev ρ' (aco t)
      rw [aev_co]
      exact hu
  show aGl xs L Q M [(174, 0, xent 174 [.ref 56, .int x, .long u], [])]
  refine seg prs0 allc0 hL ok.1 rfl hS0 hM (fun ρ1 M1 cfr1 hS1 hM1 hU1 hag1 => ?_)
  have eM := aUnw_nil hU1
  subst eM
  exact l174 hL ok.2.1 ok.2.2 (fun M' a1 a2 a3 a4 a5 => hQ none M' a1 a2 a3 a4 rfl a5) cs.length 0 M1 ρ1 cfr1 (Nat.zero_add _) hM hR hk (aUnw.refl _ _) rfl hS1
end AWT
theorem t174_1 : s174 6 35675632986912 tRank = true := by decide +kernel
theorem t174_2 : s174 6 35658519634976 tNeed = true := by decide +kernel
theorem t174_3 : s174 4 544171552 tOf = true := by decide +kernel
theorem t174_4 : s174 4 543778336 tIf = true := by decide +kernel
theorem t174_5 : s174 5 139073578016 tAnd = true := by decide +kernel
