/-! THE TAPE, of the class: what reading does -/
section AVT
variable {xs : Nat → Int32} {L : Nat} {prs : List (Nat × Nat)} {ρ : Nat → Int} {M : xM} {Q : xZ → Prop}
/-- a cell that is looked at beforehand -/
def kcell (K : aKn) (p : Nat) (l : aL) (q : Int × Int) : aKn := (K.1 + 1, (K.1, q) :: K.2.1, K.2.2.1, ((p, l), aid K.1) :: K.2.2.2.1, K.2.2.2.2)
theorem aHS_cell {K : aKn} {fr : List aFr} {cfr : List cFr} {p : Nat} {l : aL} {q : Int × Int} (hS : aHS xs L prs M K ρ fr cfr) (hw : awl K.1 l = true) (h0 : 0 ≤ aev ρ l) (hq : q.1 ≤ (M p (aev ρ l).toNat).toInt ∧ (M p (aev ρ l).toNat).toInt ≤ q.2) : aHS xs L prs M (kcell K p l q) (apush ρ K.1 (M p (aev ρ l).toNat).toInt) fr cfr := by
  intro ρ' hρ
  have hρ0 : agr K.1 ρ ρ' := agr_trans (Nat.le_succ _) apush_agr hρ
  have hx : ρ' K.1 = (M p (aev ρ l).toNat).toInt := (hρ K.1 (Nat.lt_succ_self _)).trans apush_self
  have hl : aev ρ' l = aev ρ l := awl_of hρ0 hw
  obtain ⟨⟨k1, k2, k3, k4, k5, k6⟩, kf⟩ := hS ρ' hρ0
  refine ⟨⟨Nat.succ_pos _, k2, aok_cons k3 ?_ ?_, k4, acc_cons k5 ?_ ?_, k6⟩, kf⟩
  · show q.1 ≤ ρ' K.1
    rw [hx]; exact hq.1
  · show ρ' K.1 ≤ q.2
    rw [hx]; exact hq.2
  · rw [hl]; exact h0
  · rw [hl, aev_id, hx]
/-- knowledge that a call leaves -/
def khav (w : aW) (K : aKn) : aKn := (K.1, K.2.1, K.2.2.1, K.2.2.2.1.filter (akc w), K.2.2.2.2.1, [], [])
theorem aKok_hav {K : aKn} {M' : xM} {w : aW} (h : aKok xs L prs aRws ρ K M) (hR : aRk M') (hU : aUnw w M M') : aKok xs L [] aRws ρ (khav w K) M' := by
  obtain ⟨k1, k2, k3, k4, k5, k6, k7, k8⟩ := h
  refine ⟨k1, k2, k3, k4, fun q hq => ?_, k6, fun j pr hj => (by cases hj), fun j r hj i => Or.inl (hR j r hj i)⟩
  obtain ⟨h1, h2⟩ := List.mem_filter.mp hq
  have h3 := k5 q h1
  refine ⟨h3.1, ?_⟩
  rw [hU _ _ (akc_of h2 h3.1)]
  exact h3.2
/-- a call of a method that answers nothing -/
theorem call_kv {y pc z : Nat} {e : xEn} {pl : List (Option aV)} {sk as rest : List aV} {fs : List aFr} {K : aKn} {cfr : List cFr} (w : aW) (hI : xI y pc = some e) (hca : aca e sk = some (z, as, rest)) (hlen : Nat.ble (aargs as).length (xm z).2.2.1 = true) (hS : aHS xs L prs M K ρ ((y, pc, pl, sk) :: fs) cfr)
    (k : ∀ (asc : List Value) (R : xZ → Prop), astk ρ as asc → (∀ M', aRk M' → aUnw w M M' → ∃ cfr', aHS xs L [] M' (khav w K) ρ ((y, pc + 3, pl, rest) :: fs) cfr' ∧ (aGl xs L Q M' cfr' → R (none, 102, xsh0, M'))) → PL xs L z (0, xent z asc, [], 102, xsh0, M) R) : aGl xs L Q M cfr := by
  have h0 := hS ρ (agr_refl _ _)
  obtain ⟨plc, skc, m, ec, hl, hst, hnl⟩ := afrs_cons h0.2
  obtain ⟨asc, restc, hx, hx2⟩ := aca_of (xs := xs) (L := L) (y := y) (pc := pc) (plc := plc) (M := M) hca hst
  rw [ec]
  show PL xs L y (pc, plc, skc, 102, xsh0, M) _
  have hln : (xargs asc).length ≤ (xm z).2.2.1 := by
    rw [aloc_len (aargs_of (hx2 ρ hst).1)]
    exact Nat.le_of_ble_eq_true hlen
  refine PL.callL (by rw [xI_step hI]; exact hx) hln ?_
  refine k asc _ (hx2 ρ hst).1 (fun M' hR' hU' => ⟨(y, pc + 3, plc, restc) :: m, fun ρ' hρ => ?_, fun h => ⟨rfl, h⟩⟩)
  have h := hS ρ' hρ
  rw [ec] at h
  exact ⟨aKok_hav h.1 hR' hU', ⟨rfl, rfl, h.2.1.2.2.1, (hx2 ρ' h.2.1.2.2.2).2⟩, h.2.2⟩
def kpuh (w : aW) (q : Int × Int) (K : aKn) : aKn := (K.1 + 1, (K.1, q) :: K.2.1, K.2.2.1, K.2.2.2.1.filter (akc w), K.2.2.2.2.1, [], [])
/-- a call of a method that answers a number -/
theorem call_ki {y pc z : Nat} {e : xEn} {pl : List (Option aV)} {sk as rest : List aV} {fs : List aFr} {K : aKn} {cfr : List cFr} (w : aW) (q : Int × Int) (hI : xI y pc = some e) (hca : aca e sk = some (z, as, rest)) (hlen : Nat.ble (aargs as).length (xm z).2.2.1 = true) (hS : aHS xs L prs M K ρ ((y, pc, pl, sk) :: fs) cfr)
    (k : ∀ (asc : List Value) (R : xZ → Prop), astk ρ as asc → (∀ (x : Int32) (M' : xM), q.1 ≤ x.toInt ∧ x.toInt ≤ q.2 → aRk M' → aUnw w M M' → ∃ cfr', aHS xs L [] M' (kpuh w q K) (apush ρ K.1 x.toInt) ((y, pc + 3, pl, .inl (aid K.1) :: rest) :: fs) cfr' ∧ (aGl xs L Q M' cfr' → R (some (.int x), 102, xsh0, M'))) → PL xs L z (0, xent z asc, [], 102, xsh0, M) R) : aGl xs L Q M cfr := by
  have h0 := hS ρ (agr_refl _ _)
  obtain ⟨plc, skc, m, ec, hl, hst, hnl⟩ := afrs_cons h0.2
  obtain ⟨asc, restc, hx, hx2⟩ := aca_of (xs := xs) (L := L) (y := y) (pc := pc) (plc := plc) (M := M) hca hst
  rw [ec]
  show PL xs L y (pc, plc, skc, 102, xsh0, M) _
  have hln : (xargs asc).length ≤ (xm z).2.2.1 := by
    rw [aloc_len (aargs_of (hx2 ρ hst).1)]
    exact Nat.le_of_ble_eq_true hlen
  refine PL.callL (by rw [xI_step hI]; exact hx) hln ?_
  refine k asc _ (hx2 ρ hst).1 (fun x M' hq hR' hU' => ⟨(y, pc + 3, plc, .int x :: restc) :: m, fun ρ' hρ => ?_, fun h => ⟨rfl, h⟩⟩)
  have hρ0 : agr K.1 ρ ρ' := agr_trans (Nat.le_succ _) apush_agr hρ
  have hxx : ρ' K.1 = x.toInt := (hρ K.1 (Nat.lt_succ_self _)).trans apush_self
  have h := hS ρ' hρ0
  rw [ec] at h
  obtain ⟨k1, k2, k3, k4, k5, k6, k7, k8⟩ := aKok_hav h.1 hR' hU'
  refine ⟨⟨Nat.succ_pos _, k2, aok_cons k3 ?_ ?_, k4, k5, k6, k7, k8⟩, ⟨rfl, rfl, h.2.1.2.2.1, ?_, (hx2 ρ' h.2.1.2.2.2).2⟩, h.2.2⟩
  · show q.1 ≤ ρ' K.1
    rw [hxx]; exact hq.1
  · show ρ' K.1 ≤ q.2
    rw [hxx]; exact hq.2
  · show x.toInt = aev ρ' (aid K.1)
    rw [aev_id, hxx]
/-- the last frame ends with nothing -/
theorem ret_v {y pc len a b w : Nat} {pl : List (Option aV)} {K : aKn} {cfr : List cFr} (hI : xI y pc = some (.return_, len, a, b, w)) (hr : (xm y).2.2.2.1 = none) (hS : aHS xs L prs M K ρ [(y, pc, pl, [])] cfr) (k : Q (none, 102, xsh0, M)) : aGl xs L Q M cfr := by
  obtain ⟨plc, skc, m, e, hl, hst, hnl⟩ := afrs_cons (hS ρ (agr_refl _ _)).2
  have f2 := astkN hst
  have f3 := afrs_nil hnl
  subst f2; subst f3
  rw [e]
  show PL xs L y (pc, plc, [], 102, xsh0, M) _
  refine PL.ret (v := none) ?_ k
  rw [xI_step hI]
  show xo_vret (xm y).2.2.2.1 (pc, plc, [], 102, xsh0, M) = _
  rw [hr]
  rfl
end AVT
-- ---- what reading does to the place and the FAULT
abbrev tSt : Type := Int × Bool
def nxt (b : Nat → Int) (T : Int) (s : tSt) : Int := if s.2 = false ∧ s.1 < T then b s.1.toNat else -1
def sgn (b : Nat → Int) (T : Int) (c : Int) (s : tSt) : tSt := if nxt b T s = c then (s.1 + 1, s.2) else (s.1, true)
def txt (b : Nat → Int) (T : Int) : List Int → tSt → tSt
  | [], s => s
  | c :: cs, s => txt b T cs (sgn b T c s)
def dig (b : Nat → Int) (T : Int) (l : Int) (s : tSt) : tSt := if 48 + l ≤ nxt b T s ∧ nxt b T s ≤ 57 then (s.1 + 1, s.2) else (s.1, true)
def wrd (b : Nat → Int) (T : Int) : List (List Int) → tSt → tSt
  | [], s => (s.1, true)
  | w :: ws, s => if nxt b T s = w.headD (-2) then txt b T w s else wrd b T ws s
def nu1 (b : Nat → Int) (T : Int) (s : tSt) : tSt := if 48 ≤ nxt b T s ∧ nxt b T s ≤ 57 then dig b T 0 s else s
def num (b : Nat → Int) (T : Int) (s : tSt) : tSt := if 48 ≤ nxt b T (dig b T 0 s) ∧ nxt b T (dig b T 0 s) ≤ 57 then nu1 b T (dig b T 0 (dig b T 0 s)) else dig b T 0 s
-- ---- the class's cells
def tS (M : xM) : tSt := ((M 15 2).toInt, decide ((M 15 3).toInt = 1))
def tB (M : xM) (i : Nat) : Int := (M 16 i).toInt
def tT (M : xM) : Int := (M 15 1).toInt
def tOk (M : xM) : Prop := ∀ i, 0 ≤ (M 16 i).toInt ∧ (M 16 i).toInt ≤ 255
def wT : aW := ([], [(15, 2), (15, 3)])
/-- a method that reads -/
def cOp (xs : Nat → Int32) (L z : Nat) (as : List Value) (F : (Nat → Int) → Int → tSt → tSt) (R : Option Value → Prop) : Prop := ∀ (M : xM) (Q : xZ → Prop), aInv M → aRk M → tOk M → (∀ v M', aInv M' → aRk M' → tOk M' → aUnw wT M M' → R v → tS M' = F (tB M) (tT M) (tS M) → Q (v, 102, xsh0, M')) → PL xs L z (0, xent z as, [], 102, xsh0, M) Q
theorem wT_T {M M' : xM} (h : aUnw wT M M') : tT M' = tT M := by
  unfold tT
  rw [h 15 1 rfl]
theorem wT_B {M M' : xM} (h : aUnw wT M M') : tB M' = tB M := by
  funext i
  unfold tB
  rw [h 16 i rfl]
theorem wT_ok {M M' : xM} (h : aUnw wT M M') (hk : tOk M) : tOk M' := fun i => by
  rw [h 16 i rfl]
  exact hk i
/-- the four cells, looked at beforehand: how many, the place, the FAULT, the byte -/
def k4c (K : aKn) : aKn := kcell (kcell (kcell (kcell K 15 (aco 1) (0, 120)) 15 (aco 2) (0, 120)) 15 (aco 3) (0, 1)) 16 (aid (K.1 + 1)) (0, 255)
theorem k4c_of {xs : Nat → Int32} {L : Nat} {ρ : Nat → Int} {M : xM} {K : aKn} {fr : List aFr} {cfr : List cFr} (hM : aInv M) (hk : tOk M) (hS : aHS xs L [] M K ρ fr cfr) : ∃ ρ2, aHS xs L [] M (k4c K) ρ2 fr cfr ∧ agr K.1 ρ ρ2 ∧ ρ2 K.1 = tT M ∧ ρ2 (K.1 + 1) = (M 15 2).toInt ∧ ρ2 (K.1 + 2) = (M 15 3).toInt ∧ ρ2 (K.1 + 3) = tB M (M 15 2).toInt.toNat := by
  have h1 := hM.1.2 15 1 (0, 120) rfl
  have h2 := hM.1.2 15 2 (0, 120) rfl
  have h3 := hM.1.2 15 3 (0, 1) rfl
  have s1 := aHS_cell (p := 15) (l := aco 1) (q := (0, 120)) hS rfl (by rw [aev_co]; decide) (by rw [aev_co]; exact h1)
  have s2 := aHS_cell (p := 15) (l := aco 2) (q := (0, 120)) s1 rfl (by rw [aev_co]; decide) (by rw [aev_co]; exact h2)
  have s3 := aHS_cell (p := 15) (l := aco 3) (q := (0, 1)) s2 rfl (by rw [aev_co]; decide) (by rw [aev_co]; exact h3)
  rw [aev_co] at s1 s2 s3
  rw [aev_co] at s2 s3
  rw [aev_co] at s3
  have e2 : apush (apush (apush ρ K.1 (M 15 (Int.toNat 1)).toInt) (K.1 + 1) (M 15 (Int.toNat 2)).toInt) (K.1 + 1 + 1) (M 15 (Int.toNat 3)).toInt (K.1 + 1) = (M 15 2).toInt := by
    unfold apush
    rw [if_neg (by omega), if_pos rfl]
    rfl
  have hl : awl (K.1 + 1 + 1 + 1) (aid (K.1 + 1)) = true := by
    unfold awl aid
    rw [List.all_cons, Nat.ble_eq_true_of_le (by omega)]
    rfl
  have s4 := aHS_cell (p := 16) (l := aid (K.1 + 1)) (q := (0, 255)) s3 hl (by rw [aev_id]; show 0 ≤ apush (apush (apush ρ K.1 (M 15 (Int.toNat 1)).toInt) (K.1 + 1) (M 15 (Int.toNat 2)).toInt) (K.1 + 1 + 1) (M 15 (Int.toNat 3)).toInt (K.1 + 1); rw [e2]; exact h2.1) (hk _)
  refine ⟨_, s4, fun k hk => ?_, ?_, ?_, ?_, ?_⟩
  · unfold apush
    rw [if_neg (show ¬ k = (kcell (kcell (kcell K 15 (aco 1) (0, 120)) 15 (aco 2) (0, 120)) 15 (aco 3) (0, 1)).1 by show ¬ k = K.1 + 1 + 1 + 1; omega), if_neg (show ¬ k = (kcell (kcell K 15 (aco 1) (0, 120)) 15 (aco 2) (0, 120)).1 by show ¬ k = K.1 + 1 + 1; omega), if_neg (show ¬ k = (kcell K 15 (aco 1) (0, 120)).1 by show ¬ k = K.1 + 1; omega), if_neg (by omega)]
  · show (if K.1 = K.1 + 1 + 1 + 1 then _ else if K.1 = K.1 + 1 + 1 then _ else if K.1 = K.1 + 1 then _ else if K.1 = K.1 then (M 15 (Int.toNat 1)).toInt else _) = _
    rw [if_neg (by omega), if_neg (by omega), if_neg (by omega), if_pos rfl]
    rfl
  · show (if K.1 + 1 = K.1 + 1 + 1 + 1 then _ else if K.1 + 1 = K.1 + 1 + 1 then _ else if K.1 + 1 = K.1 + 1 then (M 15 (Int.toNat 2)).toInt else _) = _
    rw [if_neg (by omega), if_neg (by omega), if_pos rfl]
    rfl
  · show (if K.1 + 2 = K.1 + 1 + 1 + 1 then _ else if K.1 + 2 = K.1 + 1 + 1 then (M 15 (Int.toNat 3)).toInt else _) = _
    rw [if_neg (by omega), if_pos rfl]
    rfl
  · show (if K.1 + 3 = K.1 + 1 + 1 + 1 then (M 16 _).toInt else _) = _
    rw [if_pos rfl, aev_id]
    show (M 16 (apush (apush (apush ρ K.1 (M 15 (Int.toNat 1)).toInt) (K.1 + 1) (M 15 (Int.toNat 2)).toInt) (K.1 + 1 + 1) (M 15 (Int.toNat 3)).toInt (K.1 + 1)).toNat).toInt = _
    rw [e2]
    rfl
-- ---- readSign
def f95 (pc : Nat) (st : List aV) : List aFr := [(95, pc, [R_ 15, vi 1], st)]
def c95 : aC := [((15, aco 1), aid 2), ((15, aco 2), aid 3), ((15, aco 3), aid 4)]
def E95 : aE := [e0, (1, (0, 65535)), (2, (0, 120)), (3, (0, 120))]
def xA95 : aCutG := (f95 5 [.inl (aid 1), .inl (aco (-1))], (6, E95 ++ [(4, (1, 1))], [], c95, [], [], []))
def xB95 : aCutG := (f95 5 [.inl (aid 1), .inl (aco (-1))], (6, E95 ++ [(4, (0, 0))], [le_ 2 3], c95, [], [], []))
def xC95 : aCutG := (f95 5 [.inl (aid 1), .inl (aid 5)], (6, E95 ++ [(4, (0, 0)), (5, (0, 255))], [lt_ 3 2], c95, [], [], []))
def ct_95e : aCt := (95, [.inr (.inr 15), .inl (0, 65535)], [], none, wT)
theorem r95_0 : arunG [] [] ([], []) [xA95, xB95, xC95] 6 (some (1, 0)) 100 [(95, 0, axent 95 (aen ct_95e.2.1 1 [(0, (0, 2560))]).1, [])] (k4c (aK0 ct_95e)) = true := by decide +kernel
def z95 : aCutG := (f95 26 [], (6, [e0], [], [((15, aco 2), aid 3), ((15, aco 3), aco 1)], [], [], []))
def y95 : aCutG := (f95 26 [], (6, [e0, (4, (0, 0))], [], [((15, aco 2), (1, [(3, 1)])), ((15, aco 3), aid 4)], [], [], []))
theorem r95_1 : arunG [] [] wT [z95] 6 (some (1, 0)) 100 (f95 21 []) xA95.2 = true := by decide +kernel
theorem r95_2 : arunG [] [] wT [z95] 6 (some (1, 0)) 100 (f95 21 []) xB95.2 = true := by decide +kernel
theorem r95_3 : arunG [] [] wT [z95] 6 (some (1, 0)) 100 (f95 21 []) xC95.2 = true := by decide +kernel
theorem r95_4 : arunG [] [] wT [y95] 6 (some (1, 0)) 100 (f95 8 []) xC95.2 = true := by decide +kernel
section AVS
variable {xs : Nat → Int32} {L : Nat}
theorem f95_ (hL : L ≤ 2560) {c : Int32} (hc : 0 ≤ c.toInt ∧ c.toInt ≤ 65535) : cOp xs L 95 [.ref 15, .int c] (fun b T s => sgn b T c.toInt s) (fun v => v = none) := by
  intro M Q hM hR hk hQ
  obtain ⟨ρ1, hS0⟩ := aentry (xs := xs) (c := ct_95e) (as := [.ref 15, .int c]) hL hR ⟨rfl, hc, trivial⟩
  have hl : aloc ρ1 [R_ 15, vi 1] [some (.ref 15), some (.int c)] := (hS0 ρ1 (agr_refl _ _)).2.1.2.2.1
  have hs1 : c.toInt = ρ1 1 := (show c.toInt = aev ρ1 (aid 1) from hl.2.1).trans aev_id
  obtain ⟨ρ2, hS, hag0, hT, hA, hF, hB⟩ := k4c_of hM hk hS0
  have hT : ρ2 2 = tT M := hT
  have hA : ρ2 3 = (M 15 2).toInt := hA
  have hF : ρ2 4 = (M 15 3).toInt := hF
  have hB : ρ2 5 = tB M (M 15 2).toInt.toNat := hB
  have hc1 : ρ2 1 = c.toInt := (hag0 1 (by decide)).trans hs1.symm
  show aGl xs L Q M [(95, 0, xent 95 [.ref 15, .int c], [])]
  have fault : ∀ {K : aKn} {cfr2 : List cFr} {ρ3 : Nat → Int}, ρ3 3 = ρ2 3 → sgn (tB M) (tT M) c.toInt (tS M) = ((M 15 2).toInt, true) → arunG [] [] wT [z95] 6 (some (1, 0)) 100 (f95 21 []) K = true → K.1 = 6 → aHS xs L [] M K ρ3 (f95 21 []) cfr2 → aGl xs L Q M cfr2 := by
    intro K cfr2 ρ3 h3 hsg hr hK hS2
    refine arunG_of (ρ0 := ρ3) (g := 6) (M0 := M) prs0 hL allc0 (fun r h => aPost_no h) ?_ 100 _ _ ρ3 M cfr2 hr hS2 hM (aUnw.refl _ _) (by rw [hK]; exact Nat.le_refl _) (agr_refl _ _)
    intro c' hc' ρ4 M4 cfr4 hS4 hM4 hU4 hag4
    have ec := List.mem_singleton.mp hc'
    subst ec
    have c2 := cell_f (p := 15) (b := 2) (k := 3) hS4 (List.mem_cons_self ..)
    have c3 := (hS4.ce (q := ((15, aco 3), aco 1)) (List.mem_cons_of_mem _ (List.mem_cons_self ..))).2
    dsimp only at c3
    rw [aev_co, aev_co] at c3
    have c3 : (M4 15 3).toInt = 1 := c3
    have u3 : ρ4 3 = ρ3 3 := hag4 3 (by decide)
    refine ret_v (y := 95) (pc := 26) rfl rfl hS4 (hQ none M4 hM4 (hS4.rk rfl) (wT_ok hU4 hk) hU4 rfl ?_)
    show tS M4 = sgn (tB M) (tT M) c.toInt (tS M)
    rw [hsg]
    unfold tS
    rw [c3, c2, u3, h3, hA]
    rfl
  refine arunG_of (ρ0 := ρ2) (g := 6) (M0 := M) prs0 hL allc0 (fun r h => aPost_no h) ?_ 100 _ _ ρ2 M _ r95_0 hS hM (aUnw.refl _ M) (by decide) (agr_refl _ _)
  intro c' hc' ρ' M' cfr' hS' hM' hU hag
  have eM : M' = M := aUnw_nil hU
  subst eM
  have e1 : ρ' 1 = ρ2 1 := hag 1 (by decide)
  have e2 : ρ' 2 = ρ2 2 := hag 2 (by decide)
  have e3 : ρ' 3 = ρ2 3 := hag 3 (by decide)
  have e4 : ρ' 4 = ρ2 4 := hag 4 (by decide)
  have e5 : ρ' 5 = ρ2 5 := hag 5 (by decide)
  simp only [List.mem_cons, List.not_mem_nil, or_false] at hc'
  rcases hc' with e | e | e
  · subst e
    have b4 := hS'.bd (t := (4, (1, 1))) (by decide)
    dsimp only at b4
    have hn : nxt (tB M') (tT M') (tS M') = -1 := by
      unfold nxt tS
      rw [if_neg]
      dsimp only
      rw [decide_eq_true (show (M' 15 3).toInt = 1 by omega)]
      exact fun h => by cases h.1
    refine br_icmp (y := 95) (pc := 5) (tgt := 21) (op := .ne) (Or.inr rfl) rfl hS' (fun heq _ _ => ?_) (fun hne cfr2 hS2 => ?_)
    · rw [aev_co, aev_id] at heq
      omega
    · refine fault e3 ?_ r95_1 rfl hS2
      unfold sgn
      rw [hn, if_neg (by omega)]
      rfl
  · subst e
    have f1 := le_of (hS'.fa (f := le_ 2 3) (List.mem_cons_self ..))
    have hn : nxt (tB M') (tT M') (tS M') = -1 := by
      unfold nxt tS
      rw [if_neg]
      dsimp only
      exact fun h => by have := h.2; omega
    refine br_icmp (y := 95) (pc := 5) (tgt := 21) (op := .ne) (Or.inr rfl) rfl hS' (fun heq _ _ => ?_) (fun hne cfr2 hS2 => ?_)
    · rw [aev_co, aev_id] at heq
      omega
    · refine fault e3 ?_ r95_2 rfl hS2
      unfold sgn
      rw [hn, if_neg (by omega)]
      rfl
  · subst e
    have b4 := hS'.bd (t := (4, (0, 0))) (by decide)
    dsimp only at b4
    have f1 := lt_of (hS'.fa (f := lt_ 3 2) (List.mem_cons_self ..))
    have hn : nxt (tB M') (tT M') (tS M') = ρ' 5 := by
      unfold nxt tS
      rw [if_pos]
      · dsimp only
        rw [e5, hB]
      · dsimp only
        exact ⟨decide_eq_false (by omega), by omega⟩
    refine br_icmp (y := 95) (pc := 5) (tgt := 21) (op := .ne) (Or.inr rfl) rfl hS' (fun heq cfr2 hS2 => ?_) (fun hne cfr2 hS2 => ?_)
    · rw [aev_id, aev_id] at heq
      refine arunG_of (ρ0 := ρ') (g := 6) (M0 := M') prs0 hL allc0 (fun r h => aPost_no h) ?_ 100 _ _ ρ' M' cfr2 r95_4 hS2 hM (aUnw.refl _ _) (by decide) (agr_refl _ _)
      intro c' hc' ρ4 M4 cfr4 hS4 hM4 hU4 hag4
      have ec := List.mem_singleton.mp hc'
      subst ec
      have c2 := (hS4.ce (q := ((15, aco 2), (1, [(3, 1)]))) (List.mem_cons_self ..)).2
      dsimp only at c2
      rw [aev_co, aev_s] at c2
      have c2 : (M4 15 2).toInt = 1 + ρ4 3 := c2
      have c3 := cell_f (p := 15) (b := 3) (k := 4) hS4 (List.mem_cons_of_mem _ (List.mem_cons_self ..))
      have u3 : ρ4 3 = ρ' 3 := hag4 3 (by decide)
      have u4 : ρ4 4 = ρ' 4 := hag4 4 (by decide)
      refine ret_v (y := 95) (pc := 26) rfl rfl hS4 (hQ none M4 hM4 (hS4.rk rfl) (wT_ok hU4 hk) hU4 rfl ?_)
      show tS M4 = sgn (tB M') (tT M') c.toInt (tS M')
      unfold sgn
      rw [hn, if_pos (by omega)]
      unfold tS
      dsimp only
      rw [c2, c3, u3, u4, e3, e4, hA, hF, Int.add_comm]
    · rw [aev_id, aev_id] at hne
      refine fault e3 ?_ r95_3 rfl hS2
      unfold sgn
      rw [hn, if_neg (by omega)]
      rfl
end AVS
