/-! THE RULE, of the class: a chain of readings -/
def wR : aW := ([18, 19, 20, 21, 22, 23, 24, 25], [])
def wC : aW := ([18, 19, 20, 21, 22, 23, 24, 25], [(15, 2), (15, 3)])
/-- how far the class has read -/
def cSt (M0 M : xM) (s : tSt) : Prop := aInv M ∧ aRk M ∧ tOk M ∧ aUnw wC M0 M ∧ tS M = s
section AVR
variable {xs : Nat → Int32} {L : Nat} {ρ : Nat → Int} {M M0 : xM} {Q : xZ → Prop}
theorem cSt_B {s : tSt} (h : cSt M0 M s) : tB M = tB M0 := by
  funext i
  unfold tB
  rw [h.2.2.2.1 16 i rfl]
theorem cSt_T {s : tSt} (h : cSt M0 M s) : tT M = tT M0 := by
  unfold tT
  rw [h.2.2.2.1 15 1 rfl]
theorem cSt_R {M' : xM} {s : tSt} (h : cSt M0 M s) (hU : aUnw wR M M') (hM : aInv M') (hR : aRk M') : cSt M0 M' s := by
  refine ⟨hM, hR, fun i => ?_, h.2.2.2.1.trans (aUnw_sub (by decide) hU), ?_⟩
  · rw [hU 16 i rfl]
    exact h.2.2.1 i
  · rw [← h.2.2.2.2]
    unfold tS
    rw [hU 15 2 rfl, hU 15 3 rfl]
theorem seg {prs : List (Nat × Nat)} {cts : List aCt} {w : aW} {g N : Nat} {fr frc : List aFr} {K Kc : aKn} {cfr : List cFr} (hp : ∀ pr ∈ prs, pr.1 ≠ pr.2) (hct : ∀ c ∈ cts, aCon xs L c) (hL : L ≤ 2560) (ok : arunG prs cts w [(frc, Kc)] g (some (1, 0)) N fr K = true) (hg : Nat.ble g K.1 = true) (hS : aHS xs L prs M K ρ fr cfr) (hM : aInv M) (k : ∀ (ρ' : Nat → Int) (M' : xM) (cfr' : List cFr), aHS xs L prs M' Kc ρ' frc cfr' → aInv M' → aUnw w M M' → agr g ρ ρ' → aGl xs L Q M' cfr') : aGl xs L Q M cfr := by
  refine arunG_of (ρ0 := ρ) (g := g) (M0 := M) hp hL hct (fun r h => aPost_no h) ?_ N _ _ ρ M cfr ok hS hM (aUnw.refl _ _) (Nat.le_of_ble_eq_true hg) (agr_refl _ _)
  intro c hc ρ' M' cfr' hS' hM' hU' hag
  have ec := List.mem_singleton.mp hc
  subst ec
  exact k ρ' M' cfr' hS' hM' hU' hag
/-- on to a call, and the call (nothing is answered) -/
theorem cV {y pc z g N : Nat} {e : xEn} {pl : List (Option aV)} {sk as rest : List aV} {fs fr : List aFr} {K Kc : aKn} {cfr : List cFr} {s : tSt} {F : (Nat → Int) → Int → tSt → tSt} (hL : L ≤ 2560) (ok : arunG [] [] wR [((y, pc, pl, sk) :: fs, Kc)] g (some (1, 0)) N fr K = true) (hg : Nat.ble g K.1 = true) (hG : Kc.2.2.2.2.2.2 = []) (hI : xI y pc = some e) (hca : aca e sk = some (z, as, rest)) (hlen : Nat.ble (aargs as).length (xm z).2.2.1 = true) (hop : ∀ ρ asc, astk ρ as asc → cOp xs L z asc F (fun v => v = none)) (hs : cSt M0 M s) (hS : aHS xs L [] M K ρ fr cfr)
    (k : ∀ (M' : xM) (ρ' : Nat → Int) (cfr' : List cFr), cSt M0 M' (F (tB M0) (tT M0) s) → agr g ρ ρ' → aHS xs L [] M' (khav wT Kc) ρ' ((y, pc + 3, pl, rest) :: fs) cfr' → aGl xs L Q M' cfr') : aGl xs L Q M cfr := by
  refine seg prs0 allc0 hL ok hg hS hs.1 (fun ρ1 M1 cfr1 hS1 hM1 hU1 hag1 => ?_)
  have hs1 := cSt_R hs hU1 hM1 (hS1.rk hG)
  refine call_kv wT hI hca hlen hS1 (fun asc R hasc hRR => ?_)
  refine hop ρ1 asc hasc M1 R hs1.1 hs1.2.1 hs1.2.2.1 (fun v M2 hM2 hR2 hk2 hU2 hv hs2 => ?_)
  subst hv
  obtain ⟨cfr2, hS2, go2⟩ := hRR M2 hR2 hU2
  refine go2 (k M2 ρ1 cfr2 ⟨hM2, hR2, hk2, hs1.2.2.2.1.trans (aUnw_sub (by decide) hU2), ?_⟩ hag1 hS2)
  rw [hs2, hs1.2.2.2.2, cSt_B hs1, cSt_T hs1]
/-- on to a call, and the call (a number is answered) -/
theorem cI {y pc z g N : Nat} {e : xEn} {pl : List (Option aV)} {sk as rest : List aV} {fs fr : List aFr} {K Kc : aKn} {cfr : List cFr} {s : tSt} {F : (Nat → Int) → Int → tSt → tSt} {R : Option Value → Prop} (q : Int × Int) (hL : L ≤ 2560) (ok : arunG [] [] wR [((y, pc, pl, sk) :: fs, Kc)] g (some (1, 0)) N fr K = true) (hg : Nat.ble g K.1 = true) (hgc : Nat.ble g Kc.1 = true) (hG : Kc.2.2.2.2.2.2 = []) (hI : xI y pc = some e) (hca : aca e sk = some (z, as, rest)) (hlen : Nat.ble (aargs as).length (xm z).2.2.1 = true) (hop : ∀ ρ asc, astk ρ as asc → cOp xs L z asc F R) (hR : ∀ v, R v → ∃ x : Int32, v = some (.int x) ∧ q.1 ≤ x.toInt ∧ x.toInt ≤ q.2) (hs : cSt M0 M s) (hS : aHS xs L [] M K ρ fr cfr)
    (k : ∀ (M' : xM) (ρ' : Nat → Int) (cfr' : List cFr), cSt M0 M' (F (tB M0) (tT M0) s) → agr g ρ ρ' → aHS xs L [] M' (kpuh wT q Kc) ρ' ((y, pc + 3, pl, .inl (aid Kc.1) :: rest) :: fs) cfr' → aGl xs L Q M' cfr') : aGl xs L Q M cfr := by
  refine seg prs0 allc0 hL ok hg hS hs.1 (fun ρ1 M1 cfr1 hS1 hM1 hU1 hag1 => ?_)
  have hs1 := cSt_R hs hU1 hM1 (hS1.rk hG)
  refine call_ki wT q hI hca hlen hS1 (fun asc R' hasc hRR => ?_)
  refine hop ρ1 asc hasc M1 R' hs1.1 hs1.2.1 hs1.2.2.1 (fun v M2 hM2 hR2 hk2 hU2 hv hs2 => ?_)
  obtain ⟨x, ex, hx⟩ := hR v hv
  subst ex
  obtain ⟨cfr2, hS2, go2⟩ := hRR x M2 hx hR2 hU2
  refine go2 (k M2 (apush ρ1 Kc.1 x.toInt) cfr2 ⟨hM2, hR2, hk2, hs1.2.2.2.1.trans (aUnw_sub (by decide) hU2), ?_⟩ (fun j hj => ?_) hS2)
  · rw [hs2, hs1.2.2.2.2, cSt_B hs1, cSt_T hs1]
  · have := Nat.le_of_ble_eq_true hgc
    rw [apush_agr j (by omega)]
    exact hag1 j hj
-- ---- the ops at their arguments
theorem o96 (hL : L ≤ 2560) {j : Nat} {cs : List Int} (ok : s96 j cs = true) (ρ : Nat → Int) (asc : List Value) (h : astk ρ [r_ 15, r_ j] asc) : cOp xs L 96 asc (fun b T s => txt b T cs s) (fun v => v = none) := by
  obtain ⟨v0, vs, g1, h0, hvs⟩ := astkC h
  obtain ⟨v1, vs1, g2, h1, hvs1⟩ := astkC hvs
  have e0' := aval_ref h0
  have e1' := aval_ref h1
  have g4 := astkN hvs1
  subst e0'; subst e1'; subst g4; subst g2; subst g1
  exact f96_ hL ok
theorem o100 (hL : L ≤ 2560) {l : Int} (hl : l = 0 ∨ l = 1) (ok : r100 l = true) (ρ : Nat → Int) (asc : List Value) (h : astk ρ [r_ 15, .inl (aco l)] asc) : cOp xs L 100 asc (fun b T s => dig b T l s) (fun v => ∃ d : Int32, v = some (.int d) ∧ 0 ≤ d.toInt ∧ d.toInt ≤ 9) := by
  obtain ⟨v0, vs, g1, h0, hvs⟩ := astkC h
  obtain ⟨v1, vs1, g2, h1, hvs1⟩ := astkC hvs
  have e0' := aval_ref h0
  obtain ⟨x, a1, d1⟩ := avalI h1
  have g4 := astkN hvs1
  subst e0'; subst a1; subst g4; subst g2; subst g1
  rw [aev_co] at d1
  exact f100_ hL hl ok d1
theorem o101 (hL : L ≤ 2560) (ρ : Nat → Int) (asc : List Value) (h : astk ρ [r_ 15] asc) : cOp xs L 101 asc (fun b T s => num b T s) (fun v => ∃ d : Int32, v = some (.int d)) := by
  obtain ⟨v0, vs, g1, h0, hvs⟩ := astkC h
  have e0' := aval_ref h0
  have g4 := astkN hvs
  subst e0'; subst g4; subst g1
  exact f101_ hL
end AVR
-- ---- what a rule is
def tRank : List Int := [32, 114, 97, 110, 107, 32]
def tNeed : List Int := [32, 110, 101, 101, 100, 32]
def tOf : List Int := [32, 111, 102, 32]
def tIf : List Int := [32, 105, 102, 32]
def tAnd : List Int := [32, 97, 110, 100, 32]
def wK : List (List Int) := ws1000.map (fun w => w.2.2)
def wF : List (List Int) := ws1006.map (fun w => w.2.2)
def wG : List (List Int) := ws1007.map (fun w => w.2.2)
def tst (b : Nat → Int) (T : Int) (s : tSt) : tSt := num b T (wrd b T wG (wrd b T wF s))
def opt (b : Nat → Int) (T : Int) (cs : List Int) (s : tSt) : tSt := if s.2 = false ∧ s.1 < T then tst b T (txt b T cs s) else s
theorem opt_y {b : Nat → Int} {T : Int} {cs : List Int} {s : tSt} (h : s.2 = false ∧ s.1 < T) : opt b T cs s = tst b T (txt b T cs s) := if_pos h
theorem opt_n {b : Nat → Int} {T : Int} {cs : List Int} {s : tSt} (h : ¬ (s.2 = false ∧ s.1 < T)) : opt b T cs s = s := if_neg h
def frnt (b : Nat → Int) (T : Int) : tSt := dig b T 1 (txt b T tOf (dig b T 0 (txt b T tNeed (dig b T 0 (txt b T tRank (wrd b T wK (0, false)))))))
def gram (b : Nat → Int) (T : Int) : tSt := opt b T tAnd (opt b T tIf (frnt b T))
-- ---- knowledge of the three cells
def kQ (K : aKn) (q : Int × Int) (F : List aL) : aKn := (K.1 + 1 + 1 + 1, (K.1 + 1 + 1, q) :: (K.1 + 1, (0, 120)) :: (K.1, (0, 120)) :: K.2.1, F ++ K.2.2.1, ((15, aco 3), aid (K.1 + 1 + 1)) :: ((15, aco 2), aid (K.1 + 1)) :: ((15, aco 1), aid K.1) :: K.2.2.2.1, K.2.2.2.2)
section AVQ
variable {xs : Nat → Int32} {L : Nat} {ρ : Nat → Int} {M M0 : xM} {Q : xZ → Prop}
theorem kQ_of {K : aKn} {fr : List aFr} {cfr : List cFr} {q : Int × Int} {F : List aL} (hM : aInv M) (hq : q.1 ≤ (M 15 3).toInt ∧ (M 15 3).toInt ≤ q.2) (hF : ∀ ρ' : Nat → Int, ρ' K.1 = tT M → ρ' (K.1 + 1) = (M 15 2).toInt → ∀ f ∈ F, aev ρ' f ≤ 0) (hS : aHS xs L [] M K ρ fr cfr) : ∃ ρ2, aHS xs L [] M (kQ K q F) ρ2 fr cfr ∧ agr K.1 ρ ρ2 ∧ ρ2 K.1 = tT M ∧ ρ2 (K.1 + 1) = (M 15 2).toInt ∧ ρ2 (K.1 + 2) = (M 15 3).toInt := by
  have h1 := hM.1.2 15 1 (0, 120) rfl
  have h2 := hM.1.2 15 2 (0, 120) rfl
  have s1 := aHS_cell (p := 15) (l := aco 1) (q := (0, 120)) hS rfl (by rw [aev_co]; decide) (by rw [aev_co]; exact h1)
  have s2 := aHS_cell (p := 15) (l := aco 2) (q := (0, 120)) s1 rfl (by rw [aev_co]; decide) (by rw [aev_co]; exact h2)
  have s3 := aHS_cell (p := 15) (l := aco 3) (q := q) s2 rfl (by rw [aev_co]; decide) (by rw [aev_co]; exact hq)
  rw [aev_co] at s1 s2 s3
  rw [aev_co] at s2 s3
  rw [aev_co] at s3
  have g0 : apush (apush (apush ρ K.1 (M 15 (Int.toNat 1)).toInt) (K.1 + 1) (M 15 (Int.toNat 2)).toInt) (K.1 + 1 + 1) (M 15 (Int.toNat 3)).toInt K.1 = tT M := by
    unfold apush
    rw [if_neg (by omega), if_neg (by omega), if_pos rfl]
    rfl
  have g1 : apush (apush (apush ρ K.1 (M 15 (Int.toNat 1)).toInt) (K.1 + 1) (M 15 (Int.toNat 2)).toInt) (K.1 + 1 + 1) (M 15 (Int.toNat 3)).toInt (K.1 + 1) = (M 15 2).toInt := by
    unfold apush
    rw [if_neg (by omega), if_pos rfl]
    rfl
  refine ⟨_, fun ρ' h => ?_, fun k hk => ?_, g0, g1, ?_⟩
  · obtain ⟨⟨k1, k2, k3, k4, k5⟩, kf⟩ := s3 ρ' h
    refine ⟨⟨k1, k2, k3, fun f hf => ?_, k5⟩, kf⟩
    rcases List.mem_append.mp hf with e | e
    · refine hF ρ' ?_ ?_ f e
      · rw [h K.1 (by show K.1 < K.1 + 1 + 1 + 1; omega)]
        exact g0
      · rw [h (K.1 + 1) (by show K.1 + 1 < K.1 + 1 + 1 + 1; omega)]
        exact g1
    · exact k4 f e
  · show apush (apush (apush ρ K.1 (M 15 (Int.toNat 1)).toInt) (K.1 + 1) (M 15 (Int.toNat 2)).toInt) (K.1 + 1 + 1) (M 15 (Int.toNat 3)).toInt k = ρ k
    unfold apush
    rw [if_neg (by omega), if_neg (by omega), if_neg (by omega)]
  · show apush (apush (apush ρ K.1 (M 15 (Int.toNat 1)).toInt) (K.1 + 1) (M 15 (Int.toNat 2)).toInt) (K.1 + 1 + 1) (M 15 (Int.toNat 3)).toInt (K.1 + 2) = _
    unfold apush
    rw [if_pos rfl]
    rfl
theorem ev_lt {a b : Nat} (h : ρ a < ρ b) : aev ρ (lt_ a b) ≤ 0 := by
  unfold lt_
  rw [aev_add, aev_co, aev_sub, aev_id, aev_id]
  omega
theorem ev_le {a b : Nat} (h : ρ a ≤ ρ b) : aev ρ (le_ a b) ≤ 0 := by
  unfold le_
  rw [aev_sub, aev_id, aev_id]
  omega
def fs113 : List aFr := [(113, 24, [R_ 0, none], [])]
def fr46 (pc : Nat) (sk : List aV) : List aFr := (46, pc, [R_ 17, R_ 15], sk) :: fs113
def kN : aKn := (2, [e0, (1, (0, 9))], [], [((17, aco 8), aid 1)], [], [], [])
def kT (k : Int) : aKn := (2, [e0, (1, (0, 9))], [], [((17, aco 8), aid 1), ((22, aid 1), aco k)], [], [], [])
/-- whether it goes on -/
def okB (pc0 pcN : Nat) (frC : List aFr) (k : Int) : Bool := arunG [] [] ([], []) [(frC, kT k)] 2 (some (1, 0)) 100 (fr46 pc0 []) (kQ (kT k) (0, 0) [lt_ 3 2]) && (arunG [] [] ([], []) [(fr46 pcN [], kT k)] 2 (some (1, 0)) 100 (fr46 pc0 []) (kQ (kT k) (0, 0) [le_ 2 3]) && arunG [] [] ([], []) [(fr46 pcN [], kT k)] 2 (some (1, 0)) 100 (fr46 pc0 []) (kQ (kT k) (1, 1) []))
theorem tS_f {s : tSt} (hM : aInv M) (h : tS M = s) (h2 : s.2 = false) : (M 15 3).toInt = 0 := by
  subst h
  have h3 := hM.1.2 15 3 (0, 1) rfl
  have := of_decide_eq_false h2
  dsimp only at h3
  omega
theorem tS_t {s : tSt} (h : tS M = s) (h2 : ¬ s.2 = false) : (M 15 3).toInt = 1 := by
  subst h
  have h2 : (tS M).2 = true := by
    cases e : (tS M).2 with
    | true => rfl
    | false => exact absurd e h2
  exact of_decide_eq_true h2
theorem brn (hL : L ≤ 2560) {pc0 pcN : Nat} {frC : List aFr} {k : Int} {s : tSt} {cfr : List cFr} (ok : okB pc0 pcN frC k = true) (hs : cSt M0 M s) (hS : aHS xs L [] M (kT k) ρ (fr46 pc0 []) cfr) (yes : s.2 = false ∧ s.1 < tT M0 → ∀ (ρ' : Nat → Int) (cfr' : List cFr), aHS xs L [] M (kT k) ρ' frC cfr' → aGl xs L Q M cfr') (no : ¬ (s.2 = false ∧ s.1 < tT M0) → ∀ (ρ' : Nat → Int) (cfr' : List cFr), aHS xs L [] M (kT k) ρ' (fr46 pcN []) cfr' → aGl xs L Q M cfr') : aGl xs L Q M cfr := by
  unfold okB at ok
  rw [Bool.and_eq_true, Bool.and_eq_true] at ok
  have hA : s.1 = (M 15 2).toInt := by rw [← hs.2.2.2.2]; rfl
  have hT := cSt_T hs
  by_cases h2 : s.2 = false
  · have h3 := tS_f hs.1 hs.2.2.2.2 h2
    by_cases h1 : s.1 < tT M0
    · obtain ⟨ρ2, hS2, -⟩ := kQ_of (K := kT k) (q := (0, 0)) (F := [lt_ 3 2]) hs.1 (by show (0 : Int) ≤ _ ∧ _ ≤ (0 : Int); omega) (fun ρ' a1 a2 f hf => by
        have ef := List.mem_singleton.mp hf
        subst ef
        have a1 : ρ' 2 = tT M := a1
        have a2 : ρ' 3 = (M 15 2).toInt := a2
        exact ev_lt (by omega)) hS
      refine seg prs0 allc0 hL ok.1 rfl hS2 hs.1 (fun ρ' M' cfr' hS' hM' hU' hag => ?_)
      have eM := aUnw_nil hU'
      subst eM
      exact yes ⟨h2, h1⟩ ρ' cfr' hS'
    · obtain ⟨ρ2, hS2, -⟩ := kQ_of (K := kT k) (q := (0, 0)) (F := [le_ 2 3]) hs.1 (by show (0 : Int) ≤ _ ∧ _ ≤ (0 : Int); omega) (fun ρ' a1 a2 f hf => by
        have ef := List.mem_singleton.mp hf
        subst ef
        have a1 : ρ' 2 = tT M := a1
        have a2 : ρ' 3 = (M 15 2).toInt := a2
        exact ev_le (by omega)) hS
      refine seg prs0 allc0 hL ok.2.1 rfl hS2 hs.1 (fun ρ' M' cfr' hS' hM' hU' hag => ?_)
      have eM := aUnw_nil hU'
      subst eM
      exact no (fun h => h1 h.2) ρ' cfr' hS'
  · have h3 := tS_t hs.2.2.2.2 h2
    obtain ⟨ρ2, hS2, -⟩ := kQ_of (K := kT k) (q := (1, 1)) (F := []) hs.1 (by show (1 : Int) ≤ _ ∧ _ ≤ (1 : Int); omega) (fun ρ' a1 a2 f hf => by cases hf) hS
    refine seg prs0 allc0 hL ok.2.2 rfl hS2 hs.1 (fun ρ' M' cfr' hS' hM' hU' hag => ?_)
    have eM := aUnw_nil hU'
    subst eM
    exact no (fun h => h2 h.1) ρ' cfr' hS'
-- ---- a test
def fr47 (pc ret : Nat) (k : Int) (sk : List aV) : List aFr := (47, pc, [R_ 17, R_ 15, some (.inl (k, [(1, 2)]))], sk) :: (46, ret, [R_ 17, R_ 15], []) :: fs113
def I32_ : Int × Int := (-2147483648, 2147483647)
def okT (pcC ret j : Nat) (k : Int) : Bool := arunG [] [] wR [(fr46 pcC [r_ j, r_ 15], kT k)] 2 (some (1, 0)) 100 (fr46 pcC [r_ j, r_ 15]) (kT k) && (arunG [] [] wR [(fr47 25 ret k [r_ 1006, r_ 15, .inl (k, [(1, 2)]), r_ 23], kT k)] 2 (some (1, 0)) 100 (fr46 (pcC + 3) []) (khav wT (kT k)) && (arunG [] [] wR [(fr47 37 ret k [r_ 1007, r_ 15, .inl (k, [(1, 2)]), r_ 24], kT k)] 2 (some (1, 0)) 100 (fr47 28 ret k [.inl (aid 2), .inl (k, [(1, 2)]), r_ 23]) (kpuh wT (0, 3) (kT k)) && (arunG [] [] wR [(fr47 47 ret k [r_ 15, .inl (k, [(1, 2)]), r_ 25], kT k)] 2 (some (1, 0)) 100 (fr47 40 ret k [.inl (aid 2), .inl (k, [(1, 2)]), r_ 24]) (kpuh wT (0, 2) (kT k)) && arunG [] [] wR [(fr46 ret [], kT (k + 1))] 2 (some (1, 0)) 100 (fr47 50 ret k [.inl (aid 2), .inl (k, [(1, 2)]), r_ 25]) (kpuh wT I32_ (kT k)))))
theorem okT_0 : okT 99 107 1004 0 = true := by decide +kernel
theorem okT_1 : okT 117 125 1005 1 = true := by decide +kernel
theorem okB_0 : okB 89 107 (fr46 99 [r_ 1004, r_ 15]) 0 = true := by decide +kernel
theorem okB_1 : okB 107 125 (fr46 117 [r_ 1005, r_ 15]) 0 = true := by decide +kernel
theorem okB_2 : okB 107 125 (fr46 117 [r_ 1005, r_ 15]) 1 = true := by decide +kernel
theorem o97 {j : Nat} {F : (Nat → Int) → Int → tSt → tSt} {R : Option Value → Prop} (op : cOp xs L 97 [.ref 15, .ref j] F R) (ρ : Nat → Int) (asc : List Value) (h : astk ρ [r_ 15, r_ j] asc) : cOp xs L 97 asc F R := by
  obtain ⟨v0, vs, g1, h0, hvs⟩ := astkC h
  obtain ⟨v1, vs1, g2, h1, hvs1⟩ := astkC hvs
  have e0' := aval_ref h0
  have e1' := aval_ref h1
  have g4 := astkN hvs1
  subst e0'; subst e1'; subst g4; subst g2; subst g1
  exact op
theorem R97 {ws : List (Nat × Nat × List Int)} {n : Nat} (hn : ∀ w ∈ ws, w.1 ≤ n) (v : Option Value) (h : ∃ x : Int32, v = some (.int x) ∧ (x.toInt = 0 ∨ ∃ w ∈ ws, x.toInt = w.1)) : ∃ x : Int32, v = some (.int x) ∧ ((0, (n : Int)) : Int × Int).1 ≤ x.toInt ∧ x.toInt ≤ ((0, (n : Int)) : Int × Int).2 := by
  obtain ⟨x, e, h⟩ := h
  refine ⟨x, e, ?_⟩
  show (0 : Int) ≤ x.toInt ∧ x.toInt ≤ (n : Int)
  rcases h with h | ⟨w, hw, h⟩
  · omega
  · have := hn w hw
    omega
theorem tst_ (hL : L ≤ 2560) {pcC ret j : Nat} {e : xEn} {k : Int} {cs : List Int} {s : tSt} {cfr : List cFr} (ok : okT pcC ret j k = true) (ok96 : s96 j cs = true) (hI : xI 46 pcC = some e) (hca : aca e [r_ j, r_ 15] = some (96, [r_ 15, r_ j], [])) (hs : cSt M0 M s) (hS : aHS xs L [] M (kT k) ρ (fr46 pcC [r_ j, r_ 15]) cfr)
    (kk : ∀ (M' : xM) (ρ' : Nat → Int) (cfr' : List cFr), cSt M0 M' (tst (tB M0) (tT M0) (txt (tB M0) (tT M0) cs s)) → aHS xs L [] M' (kT (k + 1)) ρ' (fr46 ret []) cfr' → aGl xs L Q M' cfr') : aGl xs L Q M cfr := by
  unfold okT at ok
  rw [Bool.and_eq_true, Bool.and_eq_true, Bool.and_eq_true, Bool.and_eq_true] at ok
  obtain ⟨ok1, ok2, ok3, ok4, ok5⟩ := ok
  refine cV hL ok1 rfl rfl hI hca rfl (o96 hL ok96) hs hS (fun M1 ρ1 cfr1 hs1 _ hS1 => ?_)
  refine cI (0, 3) hL ok2 rfl rfl rfl rfl rfl rfl (o97 (h97_1006 hL)) (R97 (n := 3) (by decide)) hs1 hS1 (fun M2 ρ2 cfr2 hs2 _ hS2 => ?_)
  refine cI (0, 2) hL ok3 rfl rfl rfl rfl rfl rfl (o97 (h97_1007 hL)) (R97 (n := 2) (by decide)) hs2 hS2 (fun M3 ρ3 cfr3 hs3 _ hS3 => ?_)
  refine cI I32_ hL ok4 rfl rfl rfl rfl rfl rfl (o101 hL) (fun v h => ?_) hs3 hS3 (fun M4 ρ4 cfr4 hs4 _ hS4 => ?_)
  · obtain ⟨d, ed⟩ := h
    exact ⟨d, ed, Int32.le_toInt d, Int.le_of_lt_add_one (Int32.toInt_lt d)⟩
  · refine seg prs0 allc0 hL ok5 rfl hS4 hs4.1 (fun ρ5 M5 cfr5 hS5 hM5 hU5 _ => ?_)
    exact kk M5 ρ5 cfr5 (cSt_R hs4 hU5 hM5 (hS5.rk rfl)) hS5
end AVQ
-- ---- rule()
def kN2 : aKn := (2, [e0, (1, (0, 9))], [], [((15, aco 2), aco 0), ((15, aco 3), aco 0), ((17, aco 8), aid 1)], [], [], [])
def kI1 : aKn := kcell k1_ 17 (aco 8) (0, 10)
def xA113 : aCutG := ([(113, 12, [R_ 0, none], [.inl (aco (-4))])], (2, [e0, (1, (10, 10))], [], [], [], [], []))
def xB113 : aCutG := ([(113, 13, [R_ 0, none], [])], kN)
theorem r113_0 : arunG [] [] ([], []) [xA113, xB113] 2 (some (1, 0)) 100 [(113, 0, [R_ 0, none], [])] kI1 = true := by decide +kernel
theorem r113_1 : arunG [] [] wT [(fr46 15 [r_ 1000, r_ 15, .inl (aid 1), r_ 18], kN2)] 2 (some (1, 0)) 100 [(113, 13, [R_ 0, none], [])] kN = true := by decide +kernel
theorem r113_2 : arunG [] [] wR [(fr46 15 [r_ 1000, r_ 15, .inl (aid 1), r_ 18], kN)] 2 (some (1, 0)) 100 (fr46 15 [r_ 1000, r_ 15, .inl (aid 1), r_ 18]) kN2 = true := by decide +kernel
theorem r113_3 : arunG [] [] wR [(fr46 22 [r_ 1001, r_ 15], kN)] 2 (some (1, 0)) 100 (fr46 18 [.inl (aid 2), .inl (aid 1), r_ 18]) (kpuh wT (0, 4) kN) = true := by decide +kernel
theorem r113_4 : arunG [] [] wR [(fr46 35 [.inl (aco 0), r_ 15, .inl (aid 1), r_ 19], kN)] 2 (some (1, 0)) 100 (fr46 25 []) (khav wT kN) = true := by decide +kernel
theorem r113_5 : arunG [] [] wR [(fr46 42 [r_ 1002, r_ 15], kN)] 2 (some (1, 0)) 100 (fr46 38 [.inl (aid 2), .inl (aid 1), r_ 19]) (kpuh wT (0, 9) kN) = true := by decide +kernel
theorem r113_6 : arunG [] [] wR [(fr46 55 [.inl (aco 0), r_ 15, .inl (aid 1), r_ 20], kN)] 2 (some (1, 0)) 100 (fr46 45 []) (khav wT kN) = true := by decide +kernel
theorem r113_7 : arunG [] [] wR [(fr46 62 [r_ 1003, r_ 15], kN)] 2 (some (1, 0)) 100 (fr46 58 [.inl (aid 2), .inl (aid 1), r_ 20]) (kpuh wT (0, 9) kN) = true := by decide +kernel
theorem r113_8 : arunG [] [] wR [(fr46 75 [.inl (aco 1), r_ 15, .inl (aid 1), r_ 21], kN)] 2 (some (1, 0)) 100 (fr46 65 []) (khav wT kN) = true := by decide +kernel
theorem r113_9 : arunG [] [] wR [(fr46 89 [], kT 0)] 2 (some (1, 0)) 100 (fr46 78 [.inl (aid 2), .inl (aid 1), r_ 21]) (kpuh wT (0, 9) kN) = true := by decide +kernel
def wE : aW := ([], [(15, 1), (17, 8)])
def wC2 : aW := ([18, 19, 20, 21, 22, 23, 24, 25], [(15, 1), (15, 2), (15, 3), (17, 8)])
def yE113 (l : aL) (m : aL) (o : Option aV) : aCutG := ([(113, 56, [R_ 0, o], [.inl l])], (5, [e0], [], [((15, aco 1), aco 0), ((17, aco 8), m)], [], [], []))
theorem r113_y (k : Int) (hk : k = 0 ∨ k = 1 ∨ k = 2) : arunG [] [] wE [yE113 (aid 1) (1, [(1, 1)]) none] 5 (some (1, 0)) 200 (fr46 125 []) (kQ (kT k) (0, 0) [le_ 2 3, le_ 3 2]) = true := by
  rcases hk with h | h | h <;> subst h <;> decide +kernel
theorem r113_n (k : Int) (hk : k = 0 ∨ k = 1 ∨ k = 2) : arunG [] [] wE [yE113 (-10, [(3, -1)]) (aid 1) none] 5 (some (1, 0)) 200 (fr46 125 []) (kQ (kT k) (0, 0) [lt_ 3 2]) = true := by
  rcases hk with h | h | h <;> subst h <;> decide +kernel
theorem r113_f (k : Int) (hk : k = 0 ∨ k = 1 ∨ k = 2) : arunG [] [] wE [yE113 (-10, [(3, -1)]) (aid 1) none] 5 (some (1, 0)) 200 (fr46 125 []) (kQ (kT k) (1, 1) []) = true := by
  rcases hk with h | h | h <;> subst h <;> decide +kernel
-- ---- what is read stays within the tape
def inT (T : Int) (s : tSt) : Prop := 0 ≤ s.1 ∧ s.1 ≤ T
section AVI
variable {b : Nat → Int} {T : Int} {s : tSt}
theorem nxt_in (h : nxt b T s ≠ -1) : s.2 = false ∧ s.1 < T := by
  unfold nxt at h
  by_cases c : s.2 = false ∧ s.1 < T
  · exact c
  · rw [if_neg c] at h
    exact absurd rfl h
theorem sgn_in {c : Int} (hc : c ≠ -1) (h : inT T s) : inT T (sgn b T c s) := by
  unfold sgn
  by_cases e : nxt b T s = c
  · rw [if_pos e]
    have := nxt_in (by rw [e]; exact hc)
    exact ⟨by have := h.1; show 0 ≤ s.1 + 1; omega, by show s.1 + 1 ≤ T; omega⟩
  · rw [if_neg e]
    exact h
theorem txt_in : ∀ {cs : List Int} {s : tSt}, (∀ c ∈ cs, c ≠ -1) → inT T s → inT T (txt b T cs s)
  | [], _, _, h => h
  | c :: cs, s, hc, h => txt_in (cs := cs) (fun d hd => hc d (List.mem_cons_of_mem _ hd)) (sgn_in (hc c (List.mem_cons_self ..)) h)
theorem dig_in {l : Int} (hl : 0 ≤ l) (h : inT T s) : inT T (dig b T l s) := by
  unfold dig
  by_cases e : 48 + l ≤ nxt b T s ∧ nxt b T s ≤ 57
  · rw [if_pos e]
    have := nxt_in (b := b) (T := T) (s := s) (by omega)
    exact ⟨by have := h.1; show 0 ≤ s.1 + 1; omega, by show s.1 + 1 ≤ T; omega⟩
  · rw [if_neg e]
    exact h
theorem wrd_in : ∀ {ws : List (List Int)}, (∀ w ∈ ws, ∀ c ∈ w, c ≠ -1) → inT T s → inT T (wrd b T ws s)
  | [], _, h => h
  | w :: ws, hc, h => by
    unfold wrd
    by_cases e : nxt b T s = w.headD (-2)
    · rw [if_pos e]
      exact txt_in (hc w (List.mem_cons_self ..)) h
    · rw [if_neg e]
      exact wrd_in (ws := ws) (fun v hv => hc v (List.mem_cons_of_mem _ hv)) h
theorem num_in (h : inT T s) : inT T (num b T s) := by
  have h0 := dig_in (b := b) (l := 0) (Int.le_refl 0) h
  unfold num
  by_cases e : 48 ≤ nxt b T (dig b T 0 s) ∧ nxt b T (dig b T 0 s) ≤ 57
  · rw [if_pos e]
    have h1 := dig_in (b := b) (l := 0) (Int.le_refl 0) h0
    unfold nu1
    by_cases e : 48 ≤ nxt b T (dig b T 0 (dig b T 0 s)) ∧ nxt b T (dig b T 0 (dig b T 0 s)) ≤ 57
    · rw [if_pos e]
      exact dig_in (Int.le_refl 0) h1
    · rw [if_neg e]
      exact h1
  · rw [if_neg e]
    exact h0
theorem tst_in (h : inT T s) : inT T (tst b T s) := num_in (wrd_in (by decide) (wrd_in (by decide) h))
theorem opt_in {cs : List Int} (hc : ∀ c ∈ cs, c ≠ -1) (h : inT T s) : inT T (opt b T cs s) := by
  unfold opt
  by_cases e : s.2 = false ∧ s.1 < T
  · rw [if_pos e]
    exact tst_in (txt_in hc h)
  · rw [if_neg e]
    exact h
theorem gram_in (hT : 0 ≤ T) : inT T (gram b T) := opt_in (by decide) (opt_in (by decide) (dig_in (by decide) (txt_in (by decide) (dig_in (by decide) (txt_in (by decide) (dig_in (by decide) (txt_in (by decide) (wrd_in (by decide) ⟨Int.le_refl 0, hT⟩))))))))
end AVI
/-- what rule() answers and leaves, of either side: the number of rules, then the memory behind -/
def rulC (g : tSt) (T n x n' : Int) : Prop := (g.2 = false ∧ g.1 = T → x = n ∧ n' = n + 1) ∧ (¬ (g.2 = false ∧ g.1 = T) → x = -10 - g.1 ∧ n' = n)
section AVZ
variable {xs : Nat → Int32} {L : Nat} {Q : xZ → Prop} {M0 : xM}
theorem f113_ (hL : L ≤ 2560) (hM : aInv M0) (hR : aRk M0) (hk : tOk M0) (hfull : (M0 17 8).toInt = 10 → Q (some (.int (-4)), 102, xsh0, M0)) (hread : (M0 17 8).toInt ≤ 9 → ∀ (x : Int32) (M' : xM), aInv M' → aRk M' → tOk M' → aUnw wC2 M0 M' → (M' 15 1).toInt = 0 → rulC (gram (tB M0) (tT M0)) (tT M0) (M0 17 8).toInt x.toInt (M' 17 8).toInt → Q (some (.int x), 102, xsh0, M')) : PL xs L 113 (0, xent 113 [.ref 0], [], 102, xsh0, M0) Q := by
  obtain ⟨ρ1, hS0⟩ := aentry (xs := xs) (c := (113, [.inr (.inr 0)], [], none, wT)) (as := [.ref 0]) hL hR ⟨rfl, trivial⟩
  have hS0 : aHS xs L [] M0 k1_ ρ1 [(113, 0, [R_ 0, none], [])] [(113, 0, xent 113 [.ref 0], [])] := hS0
  have h8 := hM.1.2 17 8 (0, 10) rfl
  have s1 := aHS_cell (p := 17) (l := aco 8) (q := (0, 10)) hS0 rfl (by rw [aev_co]; decide) (by rw [aev_co]; exact h8)
  rw [aev_co] at s1
  show aGl xs L Q M0 [(113, 0, xent 113 [.ref 0], [])]
  refine arunG_of (ρ0 := apush ρ1 1 (M0 17 8).toInt) (g := 2) (M0 := M0) prs0 hL allc0 (fun r h => aPost_no h) ?_ 100 _ _ _ M0 _ r113_0 s1 hM (aUnw.refl _ M0) (by decide) (agr_refl _ _)
  intro c hc ρ2 M1 cfr2 hS2 hM2 hU2 hag2
  have eM := aUnw_nil hU2
  subst eM
  have e1 : ρ2 1 = (M1 17 8).toInt := (hag2 1 (by decide)).trans apush_self
  simp only [List.mem_cons, List.not_mem_nil, or_false] at hc
  rcases hc with e | e
  · subst e
    have b1 := hS2.bd (t := (1, (10, 10))) (by decide)
    dsimp only at b1
    refine ret_i (y := 113) (pc := 12) rfl rfl hS2 (fun x hx => ?_)
    rw [aev_co] at hx
    have ex : x = -4 := Int32.toInt_inj.mp (by rw [hx]; rfl)
    subst ex
    exact hfull (by omega)
  · subst e
    have b1 := hS2.bd (t := (1, (0, 9))) (by decide)
    dsimp only at b1
    have hread := hread (by omega)
    refine seg prs0 allc0 hL r113_1 rfl hS2 hM (fun ρ3 M3 cfr3 hS3 hM3 hU3 hag3 => ?_)
    have c2 := (hS3.ce (q := ((15, aco 2), aco 0)) (by decide)).2
    dsimp only at c2
    rw [aev_co, aev_co] at c2
    have c2 : (M3 15 2).toInt = 0 := c2
    have c3 := (hS3.ce (q := ((15, aco 3), aco 0)) (by decide)).2
    dsimp only at c3
    rw [aev_co, aev_co] at c3
    have c3 : (M3 15 3).toInt = 0 := c3
    have hs3 : cSt M1 M3 (0, false) := ⟨hM3, hS3.rk rfl, wT_ok hU3 hk, aUnw_sub (by decide) hU3, by unfold tS; rw [c2, c3]; rfl⟩
    refine cI (0, 4) hL r113_2 rfl rfl rfl rfl rfl rfl (o97 (h97_1000 hL)) (R97 (n := 4) (by decide)) hs3 hS3 (fun M4 ρ4 cfr4 hs4 _ hS4 => ?_)
    refine cV hL r113_3 rfl rfl rfl rfl rfl (o96 hL t96_1001) hs4 hS4 (fun M5 ρ5 cfr5 hs5 _ hS5 => ?_)
    refine cI (0, 9) hL r113_4 rfl rfl rfl rfl rfl rfl (o100 hL (Or.inl rfl) r100_0) (fun v h => h) hs5 hS5 (fun M6 ρ6 cfr6 hs6 _ hS6 => ?_)
    refine cV hL r113_5 rfl rfl rfl rfl rfl (o96 hL t96_1002) hs6 hS6 (fun M7 ρ7 cfr7 hs7 _ hS7 => ?_)
    refine cI (0, 9) hL r113_6 rfl rfl rfl rfl rfl rfl (o100 hL (Or.inl rfl) r100_0) (fun v h => h) hs7 hS7 (fun M8 ρ8 cfr8 hs8 _ hS8 => ?_)
    refine cV hL r113_7 rfl rfl rfl rfl rfl (o96 hL t96_1003) hs8 hS8 (fun M9 ρ9 cfr9 hs9 _ hS9 => ?_)
    refine cI (0, 9) hL r113_8 rfl rfl rfl rfl rfl rfl (o100 hL (Or.inr rfl) r100_1) (fun v h => h) hs9 hS9 (fun M10 ρ10 cfr10 hs10 _ hS10 => ?_)
    refine seg prs0 allc0 hL r113_9 rfl hS10 hs10.1 (fun ρ11 M11 cfr11 hS11 hM11 hU11 _ => ?_)
    have hs11 : cSt M1 M11 (frnt (tB M1) (tT M1)) := cSt_R hs10 hU11 hM11 (hS11.rk rfl)
    have fin : ∀ {k : Int}, k = 0 ∨ k = 1 ∨ k = 2 → ∀ (M2 : xM) (ρ : Nat → Int) (cfr : List cFr), cSt M1 M2 (gram (tB M1) (tT M1)) → aHS xs L [] M2 (kT k) ρ (fr46 125 []) cfr → aGl xs L Q M2 cfr := by
      intro k hk2 M2 ρ cfr hs hS
      have hT := cSt_T hs
      have h120 := hM.1.2 15 1 (0, 120) rfl
      have hin := gram_in (b := tB M1) (T := tT M1) h120.1
      have hA : (gram (tB M1) (tT M1)).1 = (M2 15 2).toInt := by rw [← hs.2.2.2.2]; rfl
      have h17 : M2 17 8 = M1 17 8 := hs.2.2.2.1 17 8 rfl
      have done : ∀ (l m : aL) (ρ2 : Nat → Int), (∀ (x : Int32) (M3 : xM), x.toInt = aev ρ2 l → (M3 17 8).toInt = aev ρ2 m → rulC (gram (tB M1) (tT M1)) (tT M1) (M1 17 8).toInt x.toInt (M3 17 8).toInt) → ∀ (ρ3 : Nat → Int) (M3 : xM) (cfr3 : List cFr), awl 5 l = true → awl 5 m = true → aHS xs L [] M3 (yE113 l m none).2 ρ3 (yE113 l m none).1 cfr3 → aInv M3 → aUnw wE M2 M3 → agr 5 ρ2 ρ3 → aGl xs L Q M3 cfr3 := by
        intro l m ρ2 hr ρ3 M3 cfr3 wl wm hS3 hM3 hU3 hag3
        have c1 := (hS3.ce (q := ((15, aco 1), aco 0)) (List.mem_cons_self ..)).2
        dsimp only at c1
        rw [aev_co, aev_co] at c1
        have c8 := (hS3.ce (q := ((17, aco 8), m)) (List.mem_cons_of_mem _ (List.mem_cons_self ..))).2
        dsimp only at c8
        rw [aev_co] at c8
        refine ret_i (y := 113) (pc := 56) rfl rfl hS3 (fun x hx => hread x M3 hM3 (hS3.rk rfl) (fun i => ?_) ?_ c1 (hr x M3 ?_ ?_))
        · rw [hU3 16 i rfl]
          exact hs.2.2.1 i
        · exact (aUnw_sub (by decide) hs.2.2.2.1).trans (aUnw_sub (by decide) hU3)
        · rw [hx]
          exact awl_of hag3 wl
        · rw [← awl_of hag3 wm]
          exact c8
      by_cases h2 : (gram (tB M1) (tT M1)).2 = false
      · have h3 := tS_f hs.1 hs.2.2.2.2 h2
        by_cases h1 : (gram (tB M1) (tT M1)).1 = tT M1
        · obtain ⟨ρ2, hS2, hag, g1, g2, g3⟩ := kQ_of (K := kT k) (q := (0, 0)) (F := [le_ 2 3, le_ 3 2]) hs.1 (by show (0 : Int) ≤ _ ∧ _ ≤ (0 : Int); omega) (fun ρ' a1 a2 f hf => by
            have a1 : ρ' 2 = tT M2 := a1
            have a2 : ρ' 3 = (M2 15 2).toInt := a2
            simp only [List.mem_cons, List.not_mem_nil, or_false] at hf
            rcases hf with e | e
            · subst e
              exact ev_le (by omega)
            · subst e
              exact ev_le (by omega)) hS
          have h18 := cell_f (p := 17) (b := 8) (k := 1) hS2 (by show _ ∈ _ :: _ :: _ :: [((17, aco 8), aid 1), ((22, aid 1), aco k)]; exact List.mem_cons_of_mem _ (List.mem_cons_of_mem _ (List.mem_cons_of_mem _ (List.mem_cons_self ..))))
          refine seg prs0 allc0 hL (r113_y k hk2) rfl hS2 hs.1 (fun ρ3 M3 cfr3 hS3 hM3 hU3 hag3 => done (aid 1) (1, [(1, 1)]) ρ2 (fun x M3 hx h8 => ?_) ρ3 M3 cfr3 rfl rfl hS3 hM3 hU3 hag3)
          rw [aev_id] at hx
          rw [aev_s] at h8
          rw [h17] at h18
          exact ⟨fun _ => ⟨by omega, by omega⟩, fun h => absurd ⟨h2, h1⟩ h⟩
        · obtain ⟨ρ2, hS2, hag, g1, g2, g3⟩ := kQ_of (K := kT k) (q := (0, 0)) (F := [lt_ 3 2]) hs.1 (by show (0 : Int) ≤ _ ∧ _ ≤ (0 : Int); omega) (fun ρ' a1 a2 f hf => by
            have a1 : ρ' 2 = tT M2 := a1
            have a2 : ρ' 3 = (M2 15 2).toInt := a2
            have ef := List.mem_singleton.mp hf
            subst ef
            have := hin.2
            exact ev_lt (by omega)) hS
          have h18 := cell_f (p := 17) (b := 8) (k := 1) hS2 (by show _ ∈ _ :: _ :: _ :: [((17, aco 8), aid 1), ((22, aid 1), aco k)]; exact List.mem_cons_of_mem _ (List.mem_cons_of_mem _ (List.mem_cons_of_mem _ (List.mem_cons_self ..))))
          have g2 : ρ2 3 = (M2 15 2).toInt := g2
          refine seg prs0 allc0 hL (r113_n k hk2) rfl hS2 hs.1 (fun ρ3 M3 cfr3 hS3 hM3 hU3 hag3 => done (-10, [(3, -1)]) (aid 1) ρ2 (fun x M3 hx h8 => ?_) ρ3 M3 cfr3 rfl rfl hS3 hM3 hU3 hag3)
          have hx : x.toInt = -10 + (-1 * ρ2 3 + 0) := hx
          rw [aev_id] at h8
          rw [h17] at h18
          exact ⟨fun h => absurd h.2 h1, fun _ => ⟨by omega, by omega⟩⟩
      · have h3 := tS_t hs.2.2.2.2 h2
        obtain ⟨ρ2, hS2, hag, g1, g2, g3⟩ := kQ_of (K := kT k) (q := (1, 1)) (F := []) hs.1 (by show (1 : Int) ≤ _ ∧ _ ≤ (1 : Int); omega) (fun ρ' a1 a2 f hf => by cases hf) hS
        have h18 := cell_f (p := 17) (b := 8) (k := 1) hS2 (by show _ ∈ _ :: _ :: _ :: [((17, aco 8), aid 1), ((22, aid 1), aco k)]; exact List.mem_cons_of_mem _ (List.mem_cons_of_mem _ (List.mem_cons_of_mem _ (List.mem_cons_self ..))))
        have g2 : ρ2 3 = (M2 15 2).toInt := g2
        refine seg prs0 allc0 hL (r113_f k hk2) rfl hS2 hs.1 (fun ρ3 M3 cfr3 hS3 hM3 hU3 hag3 => done (-10, [(3, -1)]) (aid 1) ρ2 (fun x M3 hx h8 => ?_) ρ3 M3 cfr3 rfl rfl hS3 hM3 hU3 hag3)
        have hx : x.toInt = -10 + (-1 * ρ2 3 + 0) := hx
        rw [aev_id] at h8
        rw [h17] at h18
        exact ⟨fun h => absurd h.1 h2, fun _ => ⟨by omega, by omega⟩⟩
    refine brn hL okB_0 hs11 hS11 (fun hy ρ12 cfr12 hS12 => ?_) (fun hn ρ12 cfr12 hS12 => ?_)
    · refine tst_ hL okT_0 t96_1004 rfl rfl hs11 hS12 (fun M13 ρ13 cfr13 hs13 hS13 => ?_)
      have eo : tst (tB M1) (tT M1) (txt (tB M1) (tT M1) tIf (frnt (tB M1) (tT M1))) = opt (tB M1) (tT M1) tIf (frnt (tB M1) (tT M1)) := (opt_y hy).symm
      have hs13 : cSt M1 M13 (opt (tB M1) (tT M1) tIf (frnt (tB M1) (tT M1))) := by rw [← eo]; exact hs13
      refine brn hL okB_2 hs13 hS13 (fun hy2 ρ14 cfr14 hS14 => ?_) (fun hn2 ρ14 cfr14 hS14 => ?_)
      · refine tst_ hL okT_1 t96_1005 rfl rfl hs13 hS14 (fun M15 ρ15 cfr15 hs15 hS15 => ?_)
        have eg : tst (tB M1) (tT M1) (txt (tB M1) (tT M1) tAnd (opt (tB M1) (tT M1) tIf (frnt (tB M1) (tT M1)))) = gram (tB M1) (tT M1) := (opt_y hy2).symm
        exact fin (k := 2) (Or.inr (Or.inr rfl)) M15 ρ15 cfr15 (by rw [← eg]; exact hs15) hS15
      · have eg : opt (tB M1) (tT M1) tIf (frnt (tB M1) (tT M1)) = gram (tB M1) (tT M1) := (opt_n hn2).symm
        exact fin (k := 1) (Or.inr (Or.inl rfl)) M13 ρ14 cfr14 (by rw [← eg]; exact hs13) hS14
    · have eo : frnt (tB M1) (tT M1) = opt (tB M1) (tT M1) tIf (frnt (tB M1) (tT M1)) := (opt_n hn).symm
      refine brn hL okB_1 hs11 hS12 (fun hy2 _ _ _ => absurd hy2 hn) (fun hn2 ρ14 cfr14 hS14 => ?_)
      have eg : frnt (tB M1) (tT M1) = gram (tB M1) (tT M1) := by
        unfold gram
        rw [← eo]
        exact (opt_n hn2).symm
      exact fin (k := 0) (Or.inl rfl) M11 ρ14 cfr14 (by rw [← eg]; exact hs11) hS14
end AVZ
