/-! DIGITS AND TEXTS, of the reference -/
def k1b (K : aKn) (q qm : Int × Int) (F : List aL) : aKn := kF (kB (kV K q) (K.1 + 1) 0 qm) F
/-- an end: at and fault as these forms say -/
def cE (fr : List aFr) (A B : aL) : aCutG := (fr, (6, [e0], [], [((56, aco 26), A), ((56, aco 27), B)], [], [], []))
section AWO
variable {xs : Nat → Int32} {L : Nat} {ρ : Nat → Int} {M : xM} {Q : xZ → Prop}
theorem k1b_of {K : aKn} {fr : List aFr} {cfr : List cFr} {q qm : Int × Int} {F : List aL} (hM : aInv M) (hq : q.1 ≤ (M 56 27).toInt ∧ (M 56 27).toInt ≤ q.2) (hqm : qm.1 ≤ mB M (M 56 26).toInt.toNat ∧ mB M (M 56 26).toInt.toNat ≤ qm.2) (hw : F.all (awl (K.1 + 1 + 1 + 1 + 1 + 1)) = true) (hF : ∀ ρ' : Nat → Int, ρ' K.1 = mT M → ρ' (K.1 + 1) = (M 56 26).toInt → ρ' (K.1 + 2) = (M 56 27).toInt → ∀ f ∈ F, aev ρ' f ≤ 0) (hS : aHS xs L [] M K ρ fr cfr) : ∃ ρ2, aHS xs L [] M (k1b K q qm F) ρ2 fr cfr ∧ agr K.1 ρ ρ2 ∧ ρ2 K.1 = mT M ∧ ρ2 (K.1 + 1) = (M 56 26).toInt ∧ ρ2 (K.1 + 2) = (M 56 27).toInt := by
  obtain ⟨ρ1, hS1, hag, g0, g1, g2⟩ := kV_of (K := K) (q := q) hM hq hS
  have h26 := hM.1.2 56 26 (0, 121) rfl
  have ez : ((0 : Int) + ρ1 (K.1 + 1)) = (M 56 26).toInt := by rw [g1]; omega
  have hS2 := aHS_byte (a := K.1 + 1) (i := 0) (q := qm) hM hS1 (show K.1 + 1 < K.1 + 1 + 1 + 1 by omega) (by rw [ez]; exact h26.1) (by rw [ez]; exact hqm)
  have low : ∀ k, k < K.1 + 1 + 1 + 1 → apush (apush ρ1 (kV K q).1 (M 70 ((0 : Int) + ρ1 (K.1 + 1)).toNat).toInt) ((kV K q).1 + 1) (mB M ((0 : Int) + ρ1 (K.1 + 1)).toNat) k = ρ1 k := fun k hk => by
    show apush (apush ρ1 (K.1 + 1 + 1 + 1) _) (K.1 + 1 + 1 + 1 + 1) _ k = _
    unfold apush
    rw [if_neg (by omega), if_neg (by omega)]
  refine ⟨_, aHS_facts (F := F) hS2 hw (fun f hf => hF _ ?_ ?_ ?_ f hf), fun k hk => ?_, ?_, ?_, ?_⟩
  · rw [low _ (by omega)]; exact g0
  · rw [low _ (by omega)]; exact g1
  · rw [low _ (by omega)]; exact g2
  · rw [low _ (by omega)]; exact hag k hk
  · rw [low _ (by omega)]; exact g0
  · rw [low _ (by omega)]; exact g1
  · rw [low _ (by omega)]; exact g2
theorem cE_of {fr : List aFr} {A B : aL} {cfr : List cFr} (hS : aHS xs L [] M (cE [] A B).2 ρ fr cfr) : (M 56 26).toInt = aev ρ A ∧ (M 56 27).toInt = aev ρ B := by
  have c2 := (hS.ce (q := ((56, aco 26), A)) (List.mem_cons_self ..)).2
  have c3 := (hS.ce (q := ((56, aco 27), B)) (List.mem_cons_of_mem _ (List.mem_cons_self ..))).2
  dsimp only at c2 c3
  rw [aev_co] at c2 c3
  exact ⟨c2, c3⟩
end AWO
-- ---- digit
def p177 (l : Int) : List (Option aV) := [R_ 56, some (.inl (aco l))]
def z177 (B : aL) : aCutG := cE [(177, 44, [R_ 56, none], [.inl (aco 0)])] (aid 2) B
def y177 : aCutG := cE [(177, 73, [R_ 56, none], [.inl (-48, [(5, 1)])])] (1, [(2, 1)]) (aid 3)
def r177 (l : Int) (c : aCutG) (q qm : Int × Int) (F : List aL) : Bool := arunG [] [] wM [c] 6 (some (1, 0)) 300 [(177, 0, p177 l, [])] (k1b k1_ q qm F)
def ok177 (l : Int) : Bool := r177 l (z177 (aid 3)) (0, 121) (0, 255) [] && (r177 l (z177 (aid 2)) (-1, -1) (0, 255) [le_ 1 2] && (r177 l (z177 (aid 2)) (-1, -1) (0, 47 + l) [lt_ 2 1] && (r177 l (z177 (aid 2)) (-1, -1) (58, 255) [lt_ 2 1] && r177 l y177 (-1, -1) (48 + l, 57) [lt_ 2 1])))
theorem ok177_0 : ok177 0 = true := by decide +kernel
theorem ok177_1 : ok177 1 = true := by decide +kernel
section AWD
variable {xs : Nat → Int32} {L : Nat}
theorem f1_lt {ρ' : Nat → Int} {a b : Int} (h1 : ρ' 1 = a) (h2 : ρ' 2 = b) (h : b < a) : ∀ f ∈ [lt_ 2 1], aev ρ' f ≤ 0 := fun f hf => by
  have ef := List.mem_singleton.mp hf
  subst ef
  exact ev_lt (by omega)
theorem f1_le {ρ' : Nat → Int} {a b : Int} (h1 : ρ' 1 = a) (h2 : ρ' 2 = b) (h : a ≤ b) : ∀ f ∈ [le_ 1 2], aev ρ' f ≤ 0 := fun f hf => by
  have ef := List.mem_singleton.mp hf
  subst ef
  exact ev_le (by omega)
theorem f177_ (hL : L ≤ 2560) {l : Int} (hl : l = 0 ∨ l = 1) (ok : ok177 l = true) {x : Int32} (hx : x.toInt = l) : mOp xs L 177 [.ref 56, .int x] (fun b T s => dig b T l s) (fun v => ∃ d : Int32, v = some (.int d) ∧ 0 ≤ d.toInt ∧ d.toInt ≤ 9) := by
  intro M Q hM hR hk hQ
  have hS0 : aHS xs L [] M k1_ (fun _ => (L : Int)) [(177, 0, p177 l, [])] [(177, 0, xent 177 [.ref 56, .int x], [])] := by
    intro ρ' h
    have h0 : ρ' 0 = (L : Int) := h 0 (by decide)
    refine ⟨⟨by decide, h0, fun t ht => ?_, fun f hf => (by cases hf), fun q hq => (by cases hq), fun q hq => (by cases hq), fun j pr hj => (by cases hj), fun j r hj i => Or.inl (hR j r hj i)⟩, ⟨rfl, rfl, ⟨rfl, ?_, trivial⟩, trivial⟩, trivial⟩
    · have et := List.mem_singleton.mp ht
      subst et
      show (0 : Int) ≤ ρ' 0 ∧ ρ' 0 ≤ 2560
      omega
    · show x.toInt = aev ρ' (aco l)
      rw [aev_co]
      exact hx
  unfold ok177 at ok
  rw [Bool.and_eq_true, Bool.and_eq_true, Bool.and_eq_true, Bool.and_eq_true] at ok
  obtain ⟨o1, o2, o3, o4, o5⟩ := ok
  show aGl xs L Q M [(177, 0, xent 177 [.ref 56, .int x], [])]
  have h26 := hM.1.2 56 26 (0, 121) rfl
  have h27 := hM.1.2 56 27 (-1, 121) rfl
  dsimp only at h26 h27
  have hbb := mB_b (M := M) (i := (M 56 26).toInt.toNat)
  rcases mS_3 hM with ⟨hf, es⟩ | ⟨hf, es⟩
  · obtain ⟨ρ2, hS2, -, g1, g2, g3⟩ := k1b_of (K := k1_) (q := (0, 121)) (qm := (0, 255)) (F := []) hM ⟨hf, h27.2⟩ hbb rfl (fun ρ' a1 a2 a3 f hf => by cases hf) hS0
    refine seg prs0 allc0 hL o1 rfl hS2 hM (fun ρ3 M3 cfr3 hS3 hM3 hU3 hag => ?_)
    obtain ⟨c1, c2⟩ := cE_of hS3
    rw [aev_id, hag 3 (by decide)] at c2
    refine ret_i (y := 177) (pc := 44) rfl rfl hS3 (fun d hd => hQ (some (.int d)) M3 hM3 (hS3.rk rfl) (wM_ok hU3 hk) hU3 ⟨d, rfl, by rw [hd, aev_co]; omega, by rw [hd, aev_co]; omega⟩ ?_)
    have g3 : ρ2 3 = (M 56 27).toInt := g3
    show mS M3 = dig (mB M) (mT M) l (mS M)
    rw [es, dig_f (by omega), mS_f (c2.trans g3) hf]
  · have bad : ∀ {qm : Int × Int} {F : List aL}, r177 l (z177 (aid 2)) (-1, -1) qm F = true → qm.1 ≤ mB M (M 56 26).toInt.toNat ∧ mB M (M 56 26).toInt.toNat ≤ qm.2 → F.all (awl 6) = true → (∀ ρ' : Nat → Int, ρ' 1 = mT M → ρ' 2 = (M 56 26).toInt → ∀ f ∈ F, aev ρ' f ≤ 0) → ¬ (48 + l ≤ nxt (mB M) (mT M) ((M 56 26).toInt, false) ∧ nxt (mB M) (mT M) ((M 56 26).toInt, false) ≤ 57) → aGl xs L Q M [(177, 0, xent 177 [.ref 56, .int x], [])] := by
      intro qm F hr hqm hw hF hno
      obtain ⟨ρ2, hS2, -, g1, g2, g3⟩ := k1b_of (K := k1_) (q := (-1, -1)) (qm := qm) (F := F) hM (by dsimp only; omega) hqm hw (fun ρ' a1 a2 a3 f hf => hF ρ' a1 a2 f hf) hS0
      refine seg prs0 allc0 hL hr rfl hS2 hM (fun ρ3 M3 cfr3 hS3 hM3 hU3 hag => ?_)
      obtain ⟨c1, c2⟩ := cE_of hS3
      rw [aev_id, hag 2 (by decide)] at c2
      refine ret_i (y := 177) (pc := 44) rfl rfl hS3 (fun d hd => hQ (some (.int d)) M3 hM3 (hS3.rk rfl) (wM_ok hU3 hk) hU3 ⟨d, rfl, by rw [hd, aev_co]; omega, by rw [hd, aev_co]; omega⟩ ?_)
      have g2 : ρ2 2 = (M 56 26).toInt := g2
      show mS M3 = dig (mB M) (mT M) l (mS M)
      rw [es, dig, if_neg hno, mS_f (c2.trans g2) h26.1]
    by_cases hT : (M 56 26).toInt < mT M
    · have hn := nxt_b (b := mB M) hT
      by_cases u1 : mB M (M 56 26).toInt.toNat ≤ 47 + l
      · exact bad o3 ⟨hbb.1, u1⟩ rfl (fun ρ' a1 a2 => f1_lt a1 a2 hT) (by rw [hn]; omega)
      · by_cases u2 : 58 ≤ mB M (M 56 26).toInt.toNat
        · exact bad o4 ⟨u2, hbb.2⟩ rfl (fun ρ' a1 a2 => f1_lt a1 a2 hT) (by rw [hn]; omega)
        · obtain ⟨ρ2, hS2, -, g1, g2, g3⟩ := k1b_of (K := k1_) (q := (-1, -1)) (qm := (48 + l, 57)) (F := [lt_ 2 1]) hM (by dsimp only; omega) (by dsimp only; omega) rfl (fun ρ' a1 a2 a3 => f1_lt a1 a2 hT) hS0
          refine seg prs0 allc0 hL o5 rfl hS2 hM (fun ρ3 M3 cfr3 hS3 hM3 hU3 hag => ?_)
          obtain ⟨c1, c2⟩ := cE_of hS3
          rw [aev_id, hag 3 (by decide)] at c2
          rw [aev_s, hag 2 (by decide)] at c1
          have b5 := hS2.bd (t := (5, (48 + l, 57))) (List.mem_cons_self ..)
          dsimp only at b5
          have e5 : ρ3 5 = ρ2 5 := hag 5 (by decide)
          refine ret_i (y := 177) (pc := 73) rfl rfl hS3 (fun d hd => hQ (some (.int d)) M3 hM3 (hS3.rk rfl) (wM_ok hU3 hk) hU3 ⟨d, rfl, by rw [hd, aev_s]; omega, by rw [hd, aev_s]; omega⟩ ?_)
          have g2 : ρ2 2 = (M 56 26).toInt := g2
          have g3 : ρ2 3 = (M 56 27).toInt := g3
          show mS M3 = dig (mB M) (mT M) l (mS M)
          rw [es, dig, if_pos (by rw [hn]; omega), mS_n (a := (M 56 26).toInt + 1) (by omega) (by omega)]
    · have hn := nxt_e (b := mB M) (show mT M ≤ (M 56 26).toInt by omega)
      exact bad o2 hbb rfl (fun ρ' a1 a2 => f1_le a1 a2 (by omega)) (by rw [hn]; omega)
end AWD
