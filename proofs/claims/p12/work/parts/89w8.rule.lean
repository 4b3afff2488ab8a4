/-! THE RULE, of the reference: a chain of readings -/
def wRm : aW := ([71, 72, 73, 74, 75, 76, 77, 78], [])
def wCm : aW := ([71, 72, 73, 74, 75, 76, 77, 78], [(56, 26), (56, 27)])
/-- how far the reference has read -/
def mSt (M0 M : xM) (s : tSt) : Prop := aInv M ∧ aRk M ∧ lOk M ∧ aUnw wCm M0 M ∧ mS M = s
section AXR
variable {xs : Nat → Int32} {L : Nat} {ρ : Nat → Int} {M M0 : xM} {Q : xZ → Prop}
theorem wCm_l (p i : Nat) (h1 : 79 ≤ p) (h2 : p ≤ 81) : aWin wCm p i = false := by
  rcases p79 h1 h2 with e | e | e <;> subst e <;> rfl
theorem mSt_B {s : tSt} (h : mSt M0 M s) : mB M = mB M0 := by
  funext i
  unfold mB
  rw [h.2.2.2.1 70 i rfl]
theorem mSt_T {s : tSt} (h : mSt M0 M s) : mT M = mT M0 := by
  unfold mT
  rw [h.2.2.2.1 56 16 rfl]
theorem mSt_W {M' : xM} {w : aW} {s s' : tSt} (hw : ∀ p i, aWin w p i = true → aWin wCm p i = true) (h : mSt M0 M s) (hU : aUnw w M M') (hM : aInv M') (hR : aRk M') (hs : mS M' = s') : mSt M0 M' s' := by
  have hU2 : aUnw wCm M M' := fun p i hp => hU p i (by
    cases e : aWin w p i with
    | false => rfl
    | true => rw [hw p i e] at hp; cases hp)
  exact ⟨hM, hR, lOk_kept wCm_l h.2.2.1 hU2, h.2.2.2.1.trans hU2, hs⟩
theorem mSt_R {M' : xM} {s : tSt} (h : mSt M0 M s) (hU : aUnw wRm M M') (hM : aInv M') (hR : aRk M') : mSt M0 M' s := by
  have hU2 : aUnw wCm M M' := aUnw_sub (by decide) hU
  refine ⟨hM, hR, lOk_kept wCm_l h.2.2.1 hU2, h.2.2.2.1.trans hU2, ?_⟩
  rw [← h.2.2.2.2]
  unfold mS
  rw [hU 56 26 rfl, hU 56 27 rfl]
theorem mSt_C {M' : xM} {w : aW} {s s' : tSt} (hw : aUnw w M M' → aUnw wCm M M') (h : mSt M0 M s) (hU : aUnw w M M') (hM : aInv M') (hR : aRk M') (hs : mS M' = s') : mSt M0 M' s' := ⟨hM, hR, lOk_kept wCm_l h.2.2.1 (hw hU), h.2.2.2.1.trans (hw hU), hs⟩
/-- on to a call, and the call (nothing is answered) -/
theorem mV {y pc z g N : Nat} {e : xEn} {pl : List (Option aV)} {sk as rest : List aV} {fs fr : List aFr} {K Kc : aKn} {cfr : List cFr} {s : tSt} {F : (Nat → Int) → Int → tSt → tSt} (hL : L ≤ 2560) (ok : arunG [] [] wRm [((y, pc, pl, sk) :: fs, Kc)] g (some (1, 0)) N fr K = true) (hg : Nat.ble g K.1 = true) (hG : Kc.2.2.2.2.2.2 = []) (hI : xI y pc = some e) (hca : aca e sk = some (z, as, rest)) (hlen : Nat.ble (aargs as).length (xm z).2.2.1 = true) (hop : ∀ ρ asc, astk ρ as asc → mOp xs L z asc F (fun v => v = none)) (hs : mSt M0 M s) (hS : aHS xs L [] M K ρ fr cfr)
    (k : ∀ (M' : xM) (ρ' : Nat → Int) (cfr' : List cFr), mSt M0 M' (F (mB M0) (mT M0) s) → agr g ρ ρ' → aHS xs L [] M' (khav wM Kc) ρ' ((y, pc + 3, pl, rest) :: fs) cfr' → aGl xs L Q M' cfr') : aGl xs L Q M cfr := by
  refine seg prs0 allc0 hL ok hg hS hs.1 (fun ρ1 M1 cfr1 hS1 hM1 hU1 hag1 => ?_)
  have hs1 := mSt_R hs hU1 hM1 (hS1.rk hG)
  refine call_kv wM hI hca hlen hS1 (fun asc R hasc hRR => ?_)
  refine hop ρ1 asc hasc M1 R hs1.1 hs1.2.1 hs1.2.2.1 (fun v M2 hM2 hR2 hk2 hU2 hv hs2 => ?_)
  subst hv
  obtain ⟨cfr2, hS2, go2⟩ := hRR M2 hR2 hU2
  refine go2 (k M2 ρ1 cfr2 ⟨hM2, hR2, hk2, hs1.2.2.2.1.trans (aUnw_sub (by decide) hU2), ?_⟩ hag1 hS2)
  rw [hs2, hs1.2.2.2.2, mSt_B hs1, mSt_T hs1]
/-- on to a call, and the call (a number is answered) -/
theorem mI {y pc z g N : Nat} {e : xEn} {pl : List (Option aV)} {sk as rest : List aV} {fs fr : List aFr} {K Kc : aKn} {cfr : List cFr} {s : tSt} {F : (Nat → Int) → Int → tSt → tSt} {R : Option Value → Prop} (q : Int × Int) (hL : L ≤ 2560) (ok : arunG [] [] wRm [((y, pc, pl, sk) :: fs, Kc)] g (some (1, 0)) N fr K = true) (hg : Nat.ble g K.1 = true) (hgc : Nat.ble g Kc.1 = true) (hG : Kc.2.2.2.2.2.2 = []) (hI : xI y pc = some e) (hca : aca e sk = some (z, as, rest)) (hlen : Nat.ble (aargs as).length (xm z).2.2.1 = true) (hop : ∀ ρ asc, astk ρ as asc → mOp xs L z asc F R) (hR : ∀ v, R v → ∃ x : Int32, v = some (.int x) ∧ q.1 ≤ x.toInt ∧ x.toInt ≤ q.2) (hs : mSt M0 M s) (hS : aHS xs L [] M K ρ fr cfr)
    (k : ∀ (M' : xM) (ρ' : Nat → Int) (cfr' : List cFr), mSt M0 M' (F (mB M0) (mT M0) s) → agr g ρ ρ' → aHS xs L [] M' (kpuh wM q Kc) ρ' ((y, pc + 3, pl, .inl (aid Kc.1) :: rest) :: fs) cfr' → aGl xs L Q M' cfr') : aGl xs L Q M cfr := by
  refine seg prs0 allc0 hL ok hg hS hs.1 (fun ρ1 M1 cfr1 hS1 hM1 hU1 hag1 => ?_)
  have hs1 := mSt_R hs hU1 hM1 (hS1.rk hG)
  refine call_ki wM q hI hca hlen hS1 (fun asc R' hasc hRR => ?_)
  refine hop ρ1 asc hasc M1 R' hs1.1 hs1.2.1 hs1.2.2.1 (fun v M2 hM2 hR2 hk2 hU2 hv hs2 => ?_)
  obtain ⟨x, ex, hx⟩ := hR v hv
  subst ex
  obtain ⟨cfr2, hS2, go2⟩ := hRR x M2 hx hR2 hU2
  refine go2 (k M2 (apush ρ1 Kc.1 x.toInt) cfr2 ⟨hM2, hR2, hk2, hs1.2.2.2.1.trans (aUnw_sub (by decide) hU2), ?_⟩ (fun j hj => ?_) hS2)
  · rw [hs2, hs1.2.2.2.2, mSt_B hs1, mSt_T hs1]
  · have := Nat.le_of_ble_eq_true hgc
    rw [apush_agr j (by omega)]
    exact hag1 j hj
-- ---- the ops at their arguments
theorem avalL {l : aL} {v : Value} (h : aval ρ (.inr (.inl (some l))) v) : ∃ u : Int64, v = .long u ∧ u.toInt = aev ρ l := by
  match v, h with
  | .long u, h => exact ⟨u, rfl, h⟩
theorem o174 (hL : L ≤ 2560) {m t : Int} {cs : List Int} (ok : s174 m t cs = true) (ρ : Nat → Int) (asc : List Value) (h : astk ρ [r_ 56, .inl (aco m), .inr (.inl (some (aco t)))] asc) : mOp xs L 174 asc (fun b T s => txt b T cs s) (fun v => v = none) := by
  obtain ⟨v0, vs, g1, h0, hvs⟩ := astkC h
  obtain ⟨v1, vs1, g2, h1, hvs1⟩ := astkC hvs
  obtain ⟨v2, vs2, g3, h2, hvs2⟩ := astkC hvs1
  have e0' := aval_ref h0
  obtain ⟨x, a1, d1⟩ := avalI h1
  obtain ⟨u, a2, d2⟩ := avalL h2
  have g4 := astkN hvs2
  subst e0'; subst a1; subst a2; subst g4; subst g3; subst g2; subst g1
  rw [aev_co] at d1 d2
  exact f174_ hL ok d1 d2
theorem o177 (hL : L ≤ 2560) {l : Int} (hl : l = 0 ∨ l = 1) (ok : ok177 l = true) (ρ : Nat → Int) (asc : List Value) (h : astk ρ [r_ 56, .inl (aco l)] asc) : mOp xs L 177 asc (fun b T s => dig b T l s) (fun v => ∃ d : Int32, v = some (.int d) ∧ 0 ≤ d.toInt ∧ d.toInt ≤ 9) := by
  obtain ⟨v0, vs, g1, h0, hvs⟩ := astkC h
  obtain ⟨v1, vs1, g2, h1, hvs1⟩ := astkC hvs
  have e0' := aval_ref h0
  obtain ⟨x, a1, d1⟩ := avalI h1
  have g4 := astkN hvs1
  subst e0'; subst a1; subst g4; subst g2; subst g1
  rw [aev_co] at d1
  exact f177_ hL hl ok d1
theorem o175 {f t : Int} {ws : List (List Int)} {R : Option Value → Prop} (op : ∀ {x y : Int32}, x.toInt = f → y.toInt = t → mOp xs L 175 [.ref 56, .int x, .int y] (fun b T s => wrd b T ws s) R) (ρ : Nat → Int) (asc : List Value) (h : astk ρ [r_ 56, .inl (aco f), .inl (aco t)] asc) : mOp xs L 175 asc (fun b T s => wrd b T ws s) R := by
  obtain ⟨v0, vs, g1, h0, hvs⟩ := astkC h
  obtain ⟨v1, vs1, g2, h1, hvs1⟩ := astkC hvs
  obtain ⟨v2, vs2, g3, h2, hvs2⟩ := astkC hvs1
  have e0' := aval_ref h0
  obtain ⟨x, a1, d1⟩ := avalI h1
  obtain ⟨y, a2, d2⟩ := avalI h2
  have g4 := astkN hvs2
  subst e0'; subst a1; subst a2; subst g4; subst g3; subst g2; subst g1
  rw [aev_co] at d1 d2
  exact op d1 d2
/-- the three ways of reading on -/
theorem three {K : aKn} {fr : List aFr} {cfr : List cFr} {s : tSt} {P : Prop} (hs : mSt M0 M s) (hw1 : [le_ K.1 (K.1 + 1)].all (awl (K.1 + 1 + 1 + 1 + 1 + 1)) = true) (hw2 : [lt_ (K.1 + 1) K.1].all (awl (K.1 + 1 + 1 + 1 + 1 + 1)) = true) (hS : aHS xs L [] M K ρ fr cfr)
    (cF : ∀ ρ2, aHS xs L [] M (k1b K (0, 121) (0, 255) []) ρ2 fr cfr → agr K.1 ρ ρ2 → s = (ρ2 (K.1 + 2), true) → 0 ≤ ρ2 (K.1 + 2) → P)
    (cN : ∀ ρ2, aHS xs L [] M (k1b K (-1, -1) (0, 255) [le_ K.1 (K.1 + 1)]) ρ2 fr cfr → agr K.1 ρ ρ2 → s = (ρ2 (K.1 + 1), false) → ρ2 (K.1 + 2) = -1 → 0 ≤ ρ2 (K.1 + 1) → nxt (mB M0) (mT M0) s = -1 → ¬ s.1 < mT M0 → P)
    (cY : s.2 = false → s.1 < mT M0 → 0 ≤ nxt (mB M0) (mT M0) s → nxt (mB M0) (mT M0) s ≤ 255 → (∀ qm : Int × Int, qm.1 ≤ nxt (mB M0) (mT M0) s → nxt (mB M0) (mT M0) s ≤ qm.2 → ∃ ρ2, aHS xs L [] M (k1b K (-1, -1) qm [lt_ (K.1 + 1) K.1]) ρ2 fr cfr ∧ agr K.1 ρ ρ2 ∧ s = (ρ2 (K.1 + 1), false) ∧ ρ2 (K.1 + 2) = -1 ∧ 0 ≤ ρ2 (K.1 + 1)) → P) : P := by
  have hM := hs.1
  have h26 := hM.1.2 56 26 (0, 121) rfl
  have h27 := hM.1.2 56 27 (-1, 121) rfl
  dsimp only at h26 h27
  have hbb := mB_b (M := M) (i := (M 56 26).toInt.toNat)
  have hB := mSt_B hs
  have hT0 := mSt_T hs
  rcases mS_3 hM with ⟨hf, es⟩ | ⟨hf, es⟩
  · rw [hs.2.2.2.2] at es
    obtain ⟨ρ2, hS2, hag, g1, g2, g3⟩ := k1b_of (K := K) (q := (0, 121)) (qm := (0, 255)) (F := []) hM ⟨hf, h27.2⟩ hbb rfl (fun ρ' a1 a2 a3 f hf => by cases hf) hS
    exact cF ρ2 hS2 hag (by rw [es, g3]) (by rw [g3]; exact hf)
  · rw [hs.2.2.2.2] at es
    by_cases hT : (M 56 26).toInt < mT M
    · have hn : nxt (mB M0) (mT M0) s = mB M (M 56 26).toInt.toNat := by
        rw [es, ← hB, ← hT0, nxt_b hT]
      refine cY (by rw [es]) (by rw [es, ← hT0]; exact hT) (by rw [hn]; exact hbb.1) (by rw [hn]; exact hbb.2) (fun qm q1 q2 => ?_)
      rw [hn] at q1 q2
      obtain ⟨ρ2, hS2, hag, g1, g2, g3⟩ := k1b_of (K := K) (q := (-1, -1)) (qm := qm) (F := [lt_ (K.1 + 1) K.1]) hM (by dsimp only; omega) ⟨q1, q2⟩ hw2 (fun ρ' a1 a2 a3 f hf => by
        have ef := List.mem_singleton.mp hf
        subst ef
        exact ev_lt (by omega)) hS
      exact ⟨ρ2, hS2, hag, by rw [es, g2], by rw [g3]; exact hf, by rw [g2]; exact h26.1⟩
    · obtain ⟨ρ2, hS2, hag, g1, g2, g3⟩ := k1b_of (K := K) (q := (-1, -1)) (qm := (0, 255)) (F := [le_ K.1 (K.1 + 1)]) hM (by dsimp only; omega) hbb hw1 (fun ρ' a1 a2 a3 f hf => by
        have ef := List.mem_singleton.mp hf
        subst ef
        exact ev_le (by omega)) hS
      exact cN ρ2 hS2 hag (by rw [es, g2]) (by rw [g3]; exact hf) (by rw [g2]; exact h26.1) (by rw [es, ← hB, ← hT0, nxt_e (by omega)]) (by rw [es, ← hT0]; exact hT)
end AXR
-- ---- frames and knowledge
def fs180 : List aFr := [(180, 20, [R_ 56], [])]
def fr179 (pc : Nat) (sk : List aV) : List aFr := (179, pc, [R_ 56, vi 1], sk) :: fs180
def tk_ (k : Int) : aL := (k, [(1, 2)])
def fr178 (pc : Nat) (k : Int) (c v : Option aV) (sk : List aV) : List aFr := (178, pc, [R_ 56, some (.inl (tk_ k)), c, v], sk) :: (179, 176, [R_ 56, vi 1], []) :: fs180
def kNm : aKn := (2, [e0, (1, (0, 9))], [], [((56, aco 17), aid 1)], [], [], [])
def kTm (k : Int) : aKn := (2, [e0, (1, (0, 9))], [], [((56, aco 17), aid 1), ((75, aid 1), aco k)], [], [], [])
def kvT (k hi : Int) : aKn := (3, [e0, (1, (0, 9)), (2, (0, hi))], [], [((56, aco 17), aid 1), ((75, aid 1), aco k)], [], [], [])
-- ---- the sign
def wS_ : aW := ([77], [(56, 26), (56, 27)])
def cS (k : Int) (A B : aL) : aCutG := (fr178 97 k none none [.inl (aco 0), r_ 56], (7, [e0, (1, (0, 9))], [], [((56, aco 26), A), ((56, aco 27), B), ((56, aco 17), aid 1), ((75, aid 1), aco k)], [], [], []))
def rS (k : Int) (A B : aL) (q qm : Int × Int) (F : List aL) : Bool := arunG [] [] wS_ [cS k A B] 7 (some (1, 0)) 300 (fr178 13 k none none []) (k1b (kTm k) q qm F) && arunG [] [] ([], []) [(fr178 97 k none none [.inl (aco 0), r_ 56], kTm k)] 2 (some (1, 0)) 10 (fr178 97 k none none [.inl (aco 0), r_ 56]) (cS k A B).2
def an3 : aL := (1, [(3, 1)])
def okS (k : Int) : Bool := rS k (aid 3) (aid 4) (0, 121) (0, 255) [] && (rS k an3 (aid 3) (-1, -1) (0, 255) [le_ 2 3] && ((rS k an3 (aid 3) (-1, -1) (0, 59) [lt_ 3 2] && rS k an3 (aid 3) (-1, -1) (63, 255) [lt_ 3 2]) && (rS k an3 (aid 4) (-1, -1) (60, 60) [lt_ 3 2] && (rS k an3 (aid 4) (-1, -1) (61, 61) [lt_ 3 2] && rS k an3 (aid 4) (-1, -1) (62, 62) [lt_ 3 2]))))
theorem okS_0 : okS 0 = true := by decide +kernel
theorem okS_1 : okS 1 = true := by decide +kernel
theorem wG_at {b : Nat → Int} {T a c : Int} (hc : c = 61 ∨ c = 60 ∨ c = 62) (h : nxt b T (a, false) = c) : wrd b T wG (a, false) = (a + 1, false) := by
  show (if nxt b T (a, false) = 61 then sgn b T 61 (a, false) else if nxt b T (a, false) = 60 then sgn b T 60 (a, false) else if nxt b T (a, false) = 62 then sgn b T 62 (a, false) else (a, true)) = (a + 1, false)
  rcases hc with e | e | e
  · subst e
    rw [if_pos h, sgn, if_pos h]
  · subst e
    rw [if_neg (by rw [h]; decide), if_pos h, sgn, if_pos h]
  · subst e
    rw [if_neg (by rw [h]; decide), if_neg (by rw [h]; decide), if_pos h, sgn, if_pos h]
theorem wG_no {b : Nat → Int} {T : Int} {s : tSt} (h1 : nxt b T s ≠ 61) (h2 : nxt b T s ≠ 60) (h3 : nxt b T s ≠ 62) : wrd b T wG s = (s.1, true) := wrd_no (fun w hw => by
  have hw2 : w = [61] ∨ w = [60] ∨ w = [62] := by
    have hw3 : w ∈ [[61], [60], [62]] := hw
    simp only [List.mem_cons, List.not_mem_nil, or_false] at hw3
    exact hw3
  rcases hw2 with e | e | e
  · subst e; exact h1
  · subst e; exact h2
  · subst e; exact h3)
section AXS
variable {xs : Nat → Int32} {L : Nat} {ρ : Nat → Int} {M M0 : xM} {Q : xZ → Prop}
theorem sgnM (hL : L ≤ 2560) {k : Int} {s : tSt} {cfr : List cFr} (ok : okS k = true) (hs : mSt M0 M s) (hS : aHS xs L [] M (kTm k) ρ (fr178 13 k none none []) cfr) (kk : ∀ (M' : xM) (ρ' : Nat → Int) (cfr' : List cFr), mSt M0 M' (wrd (mB M0) (mT M0) wG s) → aHS xs L [] M' (kTm k) ρ' (fr178 97 k none none [.inl (aco 0), r_ 56]) cfr' → aGl xs L Q M' cfr') : aGl xs L Q M cfr := by
  unfold okS at ok
  rw [Bool.and_eq_true, Bool.and_eq_true, Bool.and_eq_true, Bool.and_eq_true, Bool.and_eq_true, Bool.and_eq_true] at ok
  obtain ⟨o1, o2, ⟨o3, o4⟩, o5, o6, o7⟩ := ok
  have go : ∀ {A B : aL} {q qm : Int × Int} {F : List aL} {ρ2 : Nat → Int}, rS k A B q qm F = true → aHS xs L [] M (k1b (kTm k) q qm F) ρ2 (fr178 13 k none none []) cfr → (∀ (ρ3 : Nat → Int) (M' : xM), ρ3 3 = ρ2 3 → ρ3 4 = ρ2 4 → (M' 56 26).toInt = aev ρ3 A → (M' 56 27).toInt = aev ρ3 B → mS M' = wrd (mB M0) (mT M0) wG s) → aGl xs L Q M cfr := by
    intro A B q qm F ρ2 hr hS2 hend
    unfold rS at hr
    rw [Bool.and_eq_true] at hr
    refine seg prs0 allc0 hL hr.1 rfl hS2 hs.1 (fun ρ3 M3 cfr3 hS3 hM3 hU3 hag3 => ?_)
    have c2 := (hS3.ce (q := ((56, aco 26), A)) (List.mem_cons_self ..)).2
    have c3 := (hS3.ce (q := ((56, aco 27), B)) (List.mem_cons_of_mem _ (List.mem_cons_self ..))).2
    dsimp only at c2 c3
    rw [aev_co] at c2 c3
    have hs3 : mSt M0 M3 (wrd (mB M0) (mT M0) wG s) := mSt_C (aUnw_sub (by decide)) hs hU3 hM3 (hS3.rk rfl) (hend ρ3 M3 (hag3 3 (by decide)) (hag3 4 (by decide)) c2 c3)
    refine seg prs0 allc0 hL hr.2 rfl hS3 hM3 (fun ρ4 M4 cfr4 hS4 hM4 hU4 hag4 => ?_)
    have eM := aUnw_nil hU4
    subst eM
    exact kk M4 ρ4 cfr4 hs3 hS4
  refine three (K := kTm k) hs rfl rfl hS (fun ρ2 hS2 hag e2 h2 => ?_) (fun ρ2 hS2 hag e2 h2 h3 hn _ => ?_) (fun hf hT n0 n1 hY => ?_)
  · have e2 : s = (ρ2 4, true) := e2
    have h2 : 0 ≤ ρ2 4 := h2
    refine go o1 hS2 (fun ρ3 M' a1 a2 c1 c2 => ?_)
    rw [aev_id, a2] at c2
    rw [e2, wrd_f (by decide), mS_f c2 h2]
  · have e2 : s = (ρ2 3, false) := e2
    have h3 : 0 ≤ ρ2 3 := h3
    refine go o2 hS2 (fun ρ3 M' a1 a2 c1 c2 => ?_)
    rw [aev_id, a1] at c2
    rw [wG_no (by rw [hn]; decide) (by rw [hn]; decide) (by rw [hn]; decide), e2, mS_f c2 h3]
  · have bad : ∀ {qm : Int × Int}, rS k an3 (aid 3) (-1, -1) qm [lt_ 3 2] = true → qm.1 ≤ nxt (mB M0) (mT M0) s → nxt (mB M0) (mT M0) s ≤ qm.2 → nxt (mB M0) (mT M0) s ≠ 61 → nxt (mB M0) (mT M0) s ≠ 60 → nxt (mB M0) (mT M0) s ≠ 62 → aGl xs L Q M cfr := by
      intro qm hr q1 q2 m1 m2 m3
      obtain ⟨ρ2, hS2, hag, e2, h2, h3⟩ := hY qm q1 q2
      have e2 : s = (ρ2 3, false) := e2
      have h3 : 0 ≤ ρ2 3 := h3
      refine go hr hS2 (fun ρ3 M' a1 a2 c1 c2 => ?_)
      rw [aev_id, a1] at c2
      rw [wG_no m1 m2 m3, e2, mS_f c2 h3]
    have good : ∀ {c : Int}, c = 61 ∨ c = 60 ∨ c = 62 → rS k an3 (aid 4) (-1, -1) (c, c) [lt_ 3 2] = true → nxt (mB M0) (mT M0) s = c → aGl xs L Q M cfr := by
      intro c hc hr hn
      obtain ⟨ρ2, hS2, hag, e2, h2, h3⟩ := hY (c, c) (by rw [hn]; exact Int.le_refl _) (by rw [hn]; exact Int.le_refl _)
      have e2 : s = (ρ2 3, false) := e2
      have h2 : ρ2 4 = -1 := h2
      refine go hr hS2 (fun ρ3 M' a1 a2 c1 c2 => ?_)
      rw [aev_id, a2, h2] at c2
      unfold an3 at c1
      rw [aev_s, a1] at c1
      rw [e2] at hn
      rw [e2, wG_at hc hn, mS_n (a := ρ2 3 + 1) (by omega) (by omega)]
    by_cases m1 : nxt (mB M0) (mT M0) s = 61
    · exact good (Or.inl rfl) o6 m1
    · by_cases m2 : nxt (mB M0) (mT M0) s = 60
      · exact good (Or.inr (Or.inl rfl)) o5 m2
      · by_cases m3 : nxt (mB M0) (mT M0) s = 62
        · exact good (Or.inr (Or.inr rfl)) o7 m3
        · by_cases m4 : nxt (mB M0) (mT M0) s ≤ 59
          · exact bad o3 n0 m4 m1 m2 m3
          · exact bad o4 (by show (63 : Int) ≤ _; omega) n1 m1 m2 m3
end AXS
-- ---- the number
def cL (k hi i : Int) : aCutG := (fr178 103 k (some (.inl (-48, [(2, 10), (7, 1)]))) (some (.inl (aco (i + 1)))) [], (8, [e0, (1, (0, 9)), (2, (0, hi)), (7, (48, 57))], [], [((56, aco 26), (1, [(4, 1)])), ((56, aco 27), aid 5), ((56, aco 17), aid 1), ((75, aid 1), aco k)], [], [], []))
def hL_ (k i : Int) : List aFr := fr178 103 k (vi 2) (some (.inl (aco i))) []
def rN (k hi i : Int) (q qm : Int × Int) (F : List aL) : Bool := arunG [] [] wRm [(fr179 88 [], kTm (k + 1))] 2 (some (1, 0)) 300 (hL_ k i) (k1b (kvT k hi) q qm F)
def okL (k hi hi2 i : Int) : Bool := (arunG [] [] wM [cL k hi i] 8 (some (1, 0)) 300 (hL_ k i) (k1b (kvT k hi) (-1, -1) (48, 57) [lt_ 4 3]) && arunG [] [] ([], []) [(hL_ k (i + 1), kvT k hi2)] 2 (some (1, 0)) 10 (cL k hi i).1 (cL k hi i).2) && (rN k hi i (0, 121) (0, 255) [] && (rN k hi i (-1, -1) (0, 255) [le_ 3 4] && (rN k hi i (-1, -1) (0, 47) [lt_ 4 3] && rN k hi i (-1, -1) (58, 255) [lt_ 4 3])))
def okN (k : Int) : Bool := arunG [] [] ([], []) [(hL_ k 1, kvT k 9)] 2 (some (1, 0)) 10 (fr178 100 k none none [.inl (aid 2)]) (kpuh wM (0, 9) (kTm k)) && (okL k 9 99 1 && (okL k 99 999 2 && arunG [] [] wRm [(fr179 88 [], kTm (k + 1))] 2 (some (1, 0)) 300 (hL_ k 3) (kvT k 999)))
theorem okN_0 : okN 0 = true := by decide +kernel
theorem okN_1 : okN 1 = true := by decide +kernel
section AXN
variable {xs : Nat → Int32} {L : Nat} {ρ : Nat → Int} {M M0 : xM} {Q : xZ → Prop}
theorem loopM (hL : L ≤ 2560) {k hi hi2 i : Int} {s : tSt} {cfr : List cFr} (ok : okL k hi hi2 i = true) (hs : mSt M0 M s) (hS : aHS xs L [] M (kvT k hi) ρ (hL_ k i) cfr) (more : (48 ≤ nxt (mB M0) (mT M0) s ∧ nxt (mB M0) (mT M0) s ≤ 57) → ∀ (M' : xM) (ρ' : Nat → Int) (cfr' : List cFr), mSt M0 M' (dig (mB M0) (mT M0) 0 s) → aHS xs L [] M' (kvT k hi2) ρ' (hL_ k (i + 1)) cfr' → aGl xs L Q M' cfr') (stop : ¬ (48 ≤ nxt (mB M0) (mT M0) s ∧ nxt (mB M0) (mT M0) s ≤ 57) → ∀ (M' : xM) (ρ' : Nat → Int) (cfr' : List cFr), mSt M0 M' s → aHS xs L [] M' (kTm (k + 1)) ρ' (fr179 88 []) cfr' → aGl xs L Q M' cfr') : aGl xs L Q M cfr := by
  unfold okL at ok
  rw [Bool.and_eq_true, Bool.and_eq_true, Bool.and_eq_true, Bool.and_eq_true, Bool.and_eq_true] at ok
  obtain ⟨⟨o1, o2⟩, o3, o4, o5, o6⟩ := ok
  have no : ∀ {q qm : Int × Int} {F : List aL} {ρ2 : Nat → Int}, rN k hi i q qm F = true → aHS xs L [] M (k1b (kvT k hi) q qm F) ρ2 (hL_ k i) cfr → ¬ (48 ≤ nxt (mB M0) (mT M0) s ∧ nxt (mB M0) (mT M0) s ≤ 57) → aGl xs L Q M cfr := by
    intro q qm F ρ2 hr hS2 hno
    unfold rN at hr
    refine seg prs0 allc0 hL hr rfl hS2 hs.1 (fun ρ3 M3 cfr3 hS3 hM3 hU3 hag3 => ?_)
    exact stop hno M3 ρ3 cfr3 (mSt_R hs hU3 hM3 (hS3.rk rfl)) hS3
  refine three (K := kvT k hi) hs rfl rfl hS (fun ρ2 hS2 hag e2 h2 => ?_) (fun ρ2 hS2 hag e2 h2 h3 hn _ => ?_) (fun hf hT n0 n1 hY => ?_)
  · exact no o3 hS2 (by rw [e2, nxt_f]; omega)
  · exact no o4 hS2 (by rw [hn]; omega)
  · by_cases m1 : nxt (mB M0) (mT M0) s ≤ 47
    · obtain ⟨ρ2, hS2, -⟩ := hY (0, 47) n0 m1
      exact no o5 hS2 (by omega)
    · by_cases m2 : 58 ≤ nxt (mB M0) (mT M0) s
      · obtain ⟨ρ2, hS2, -⟩ := hY (58, 255) m2 n1
        exact no o6 hS2 (by omega)
      · obtain ⟨ρ2, hS2, hag, e2, h2, h3⟩ := hY (48, 57) (by show (48 : Int) ≤ _; omega) (by show _ ≤ (57 : Int); omega)
        have e2 : s = (ρ2 4, false) := e2
        have h2 : ρ2 5 = -1 := h2
        refine seg prs0 allc0 hL o1 rfl hS2 hs.1 (fun ρ3 M3 cfr3 hS3 hM3 hU3 hag3 => ?_)
        have c2 := (hS3.ce (q := ((56, aco 26), (1, [(4, 1)]))) (List.mem_cons_self ..)).2
        have c3 := (hS3.ce (q := ((56, aco 27), aid 5)) (List.mem_cons_of_mem _ (List.mem_cons_self ..))).2
        dsimp only at c2 c3
        rw [aev_co, aev_s, hag3 4 (by decide)] at c2
        rw [aev_co, aev_id, hag3 5 (by decide), h2] at c3
        have c2 : (M3 56 26).toInt = 1 + ρ2 4 := c2
        have c3 : (M3 56 27).toInt = -1 := c3
        have hs3 : mSt M0 M3 (dig (mB M0) (mT M0) 0 s) := mSt_C (aUnw_sub (by decide)) hs hU3 hM3 (hS3.rk rfl) (by
          rw [dig, if_pos (by omega), e2, mS_n (a := ρ2 4 + 1) (by omega) (by omega)])
        refine seg prs0 allc0 hL o2 rfl hS3 hM3 (fun ρ4 M4 cfr4 hS4 hM4 hU4 hag4 => ?_)
        have eM := aUnw_nil hU4
        subst eM
        exact more (by omega) M4 ρ4 cfr4 hs3 hS4
theorem numM (hL : L ≤ 2560) {k : Int} {s : tSt} {cfr : List cFr} (ok : okN k = true) (ok0 : arunG [] [] wRm [(fr178 97 k none none [.inl (aco 0), r_ 56], kTm k)] 2 (some (1, 0)) 10 (fr178 97 k none none [.inl (aco 0), r_ 56]) (kTm k) = true) (hs : mSt M0 M s) (hS : aHS xs L [] M (kTm k) ρ (fr178 97 k none none [.inl (aco 0), r_ 56]) cfr) (kk : ∀ (M' : xM) (ρ' : Nat → Int) (cfr' : List cFr), mSt M0 M' (num (mB M0) (mT M0) s) → aHS xs L [] M' (kTm (k + 1)) ρ' (fr179 88 []) cfr' → aGl xs L Q M' cfr') : aGl xs L Q M cfr := by
  unfold okN at ok
  rw [Bool.and_eq_true, Bool.and_eq_true, Bool.and_eq_true] at ok
  obtain ⟨o1, o2, o3, o4⟩ := ok
  refine mI (0, 9) hL ok0 rfl rfl rfl rfl rfl rfl (o177 hL (Or.inl rfl) ok177_0) (fun v h => h) hs hS (fun M1 ρ1 cfr1 hs1 _ hS1 => ?_)
  refine seg prs0 allc0 hL o1 rfl hS1 hs1.1 (fun ρ2 M2 cfr2 hS2 hM2 hU2 hag2 => ?_)
  have eM := aUnw_nil hU2
  subst eM
  refine loopM hL o2 hs1 hS2 (fun hy M3 ρ3 cfr3 hs3 hS3 => ?_) (fun hn M3 ρ3 cfr3 hs3 hS3 => ?_)
  · have en : num (mB M0) (mT M0) s = nu1 (mB M0) (mT M0) (dig (mB M0) (mT M0) 0 (dig (mB M0) (mT M0) 0 s)) := by
      unfold num
      rw [if_pos hy]
    refine loopM hL o3 hs3 hS3 (fun hy2 M4 ρ4 cfr4 hs4 hS4 => ?_) (fun hn2 M4 ρ4 cfr4 hs4 hS4 => ?_)
    · refine seg prs0 allc0 hL o4 rfl hS4 hs4.1 (fun ρ5 M5 cfr5 hS5 hM5 hU5 hag5 => ?_)
      refine kk M5 ρ5 cfr5 ?_ hS5
      rw [en, nu1, if_pos hy2]
      exact mSt_R hs4 hU5 hM5 (hS5.rk rfl)
    · refine kk M4 ρ4 cfr4 ?_ hS4
      rw [en, nu1, if_neg hn2]
      exact hs4
  · refine kk M3 ρ3 cfr3 ?_ hS3
    rw [num, if_neg hn]
    exact hs3
end AXN
