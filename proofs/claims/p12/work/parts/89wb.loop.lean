def cb (u : Int64) (k' : Int32) : Int32 := ((u.toUInt64 >>> (((8 : Int32) * k').toInt64.toUInt64 &&& Int64.toUInt64 63)).toInt64 &&& Int64.ofNat 255).toInt32
def mb (u : Int64) (k' : Int32) : Int32 := (u >>> (((8 : Int32) * k').toInt64 &&& 63)).toInt32.toInt8.toInt32
theorem bbv (w : BitVec 64) (s : Nat) (hs : s ≤ 56) : BitVec.signExtend 32 ((w >>> s) &&& 255#64) = BitVec.signExtend 32 (BitVec.signExtend 8 (BitVec.signExtend 32 (w.sshiftRight s))) &&& 255#32 := by
  apply BitVec.eq_of_getLsbD_eq
  intro i hi
  have e64 : (255#64).getLsbD i = decide (i < 8) := by
    have : ∀ i, i < 32 → (255#64).getLsbD i = decide (i < 8) := by decide
    exact this i hi
  have e32 : (255#32).getLsbD i = decide (i < 8) := by
    have : ∀ i, i < 32 → (255#32).getLsbD i = decide (i < 8) := by decide
    exact this i hi
  have hi64 : i < 64 := by omega
  rw [BitVec.getLsbD_signExtend, if_pos hi64, BitVec.getLsbD_and, BitVec.getLsbD_and, e64, e32, BitVec.getLsbD_ushiftRight, BitVec.getLsbD_signExtend]
  by_cases h8 : i < 8
  · rw [if_pos h8, BitVec.getLsbD_signExtend, if_pos (by omega), BitVec.getLsbD_signExtend, if_pos hi64, BitVec.getLsbD_sshiftRight]
    have h1 : s + i < 64 := by omega
    have h2 : ¬ (64 ≤ i) := by omega
    simp [hi, h8, h1, h2]
  · simp [h8]
theorem sh1 {u : Int64} {t : Int64} {s : Nat} (h : (t.toBitVec.smod 64).toNat = s) : (u >>> t).toBitVec = u.toBitVec.sshiftRight s := by
  rw [Int64.toBitVec_shiftRight]
  show u.toBitVec.sshiftRight (t.toBitVec.smod 64).toNat = _
  rw [h]
theorem sh2 {u t : UInt64} {s : Nat} (h : (t.toBitVec % 64).toNat = s) : (u >>> t).toBitVec = u.toBitVec >>> s := by
  rw [UInt64.toBitVec_shiftRight]
  show u.toBitVec >>> (t.toBitVec % 64).toNat = _
  rw [h]
theorem cbmb1 (u : Int64) (k : Int32) (s : Nat) (hs : s ≤ 56) (h1 : ((((8 : Int32) * k).toInt64 &&& 63).toBitVec.smod 64).toNat = s) (h2 : ((((8 : Int32) * k).toInt64.toUInt64 &&& Int64.toUInt64 63).toBitVec % 64).toNat = s) : cb u k = mb u k &&& 255 := by
  apply Int32.toBitVec_inj.mp
  unfold cb mb
  rw [Int64.toBitVec_toInt32, Int64.toBitVec_and, UInt64.toBitVec_toInt64, sh2 h2, Int32.toBitVec_and, Int8.toBitVec_toInt32, Int32.toBitVec_toInt8, Int64.toBitVec_toInt32, sh1 h1, show (Int64.ofNat 255).toBitVec = 255#64 by decide, show (255 : Int32).toBitVec = 255#32 by decide]
  exact bbv u.toBitVec s hs
theorem cbmb (u : Int64) (k : Int32) (h : k = 0 ∨ k = 1 ∨ k = 2 ∨ k = 3 ∨ k = 4 ∨ k = 5 ∨ k = 6 ∨ k = 7) : cb u k = mb u k &&& 255 := by
  rcases h with h | h | h | h | h | h | h | h <;> subst h
  · exact cbmb1 u 0 0 (by decide) (by decide) (by decide)
  · exact cbmb1 u 1 8 (by decide) (by decide) (by decide)
  · exact cbmb1 u 2 16 (by decide) (by decide) (by decide)
  · exact cbmb1 u 3 24 (by decide) (by decide) (by decide)
  · exact cbmb1 u 4 32 (by decide) (by decide) (by decide)
  · exact cbmb1 u 5 40 (by decide) (by decide) (by decide)
  · exact cbmb1 u 6 48 (by decide) (by decide) (by decide)
  · exact cbmb1 u 7 56 (by decide) (by decide) (by decide)
theorem mb_i (u : Int64) (k : Int32) : -128 ≤ (mb u k).toInt ∧ (mb u k).toInt ≤ 127 := by
  unfold mb
  rw [Int8.toInt_toInt32]
  exact ⟨Int8.le_toInt _, Int.le_of_lt_add_one (Int8.toInt_lt _)⟩
theorem ofI {k : Int32} : Int32.ofInt k.toInt = k := Int32.ofInt_toInt k
theorem cbmb_i (u : Int64) {k : Int} (h0 : 0 ≤ k) (h1 : k ≤ 7) : cb u (Int32.ofInt k) = mb u (Int32.ofInt k) &&& 255 := by
  refine cbmb u _ ?_
  have : k = 0 ∨ k = 1 ∨ k = 2 ∨ k = 3 ∨ k = 4 ∨ k = 5 ∨ k = 6 ∨ k = 7 := by omega
  rcases this with e | e | e | e | e | e | e | e <;> subst e <;> decide
-- ---- states of a feeding: 1 a number, 2 the long, 3 how many stand on the tape
def lgU : Option aV := some (.inr (.inl (some (aid 2))))
def kA_ (q : Int × Int) (F : List aL) (ob fb : Nat) : aKn := (4, [e0, (1, q), (3, (0, 120))], F, [((ob, aco fb), aid 3)], [], [], [])
def P5 (ob : Nat) (k : Option aV) : List (Option aV) := [R_ ob, lgU, none, none, k]
def fitk : aL := (-119, [(1, 1), (3, 1)])
def fit_ : aL := (-120, [(1, 1), (3, 1)])
def over_ : aL := (121, [(1, -1), (3, -1)])
def km1 : Option aV := some (.inl (-1, [(1, 1)]))
def rf (L n u t : Int) : Nat → Int
  | 0 => L
  | 1 => n
  | 2 => u
  | _ => t
def nv (v : Option Value) : Prop := alo1 (fun _ => 0) none v
def fedI (p : Nat) (f : Int → Int32) (T j n : Int) (M0 M : xM) : Prop := ∀ i : Nat, M p i = if T ≤ i ∧ (i : Int) < T + j then f (n - 1 - (i - T)) else M0 p i
section AYF
variable {xs : Nat → Int32} {L : Nat} {ρ : Nat → Int} {M M0 : xM} {Q : xZ → Prop}
theorem nv_of {v : Option Value} (h : alo1 ρ none v) : nv v := by
  cases v with
  | none => trivial
  | some w => exact h
theorem nv_to {v : Option Value} (h : nv v) : alo1 ρ none v := by
  cases v with
  | none => trivial
  | some w => exact h
theorem sdF {ob fb : Nat} {q : Int × Int} {F : List aL} {fr : List aFr} {cfr : List cFr} {n u t : Int} (hL : L ≤ 2560) (hR : aRk M) (hq : q.1 ≤ n ∧ n ≤ q.2) (ht : (M ob fb).toInt = t) (ht2 : 0 ≤ t ∧ t ≤ 120) (hF : ∀ ρ' : Nat → Int, ρ' 1 = n → ρ' 3 = t → ∀ f ∈ F, aev ρ' f ≤ 0) (hfr : ∀ ρ' : Nat → Int, ρ' 1 = n → ρ' 2 = u → ρ' 3 = t → afrs ρ' fr cfr) : aHS xs L [] M (kA_ q F ob fb) (rf L n u t) fr cfr := by
  intro ρ' h
  have h0 : ρ' 0 = (L : Int) := h 0 (show 0 < 4 by decide)
  have h1 : ρ' 1 = n := h 1 (show 1 < 4 by decide)
  have h2 : ρ' 2 = u := h 2 (show 2 < 4 by decide)
  have h3 : ρ' 3 = t := h 3 (show 3 < 4 by decide)
  refine ⟨⟨show 1 ≤ 4 by decide, h0, fun e he => ?_, fun f hf => hF ρ' h1 h3 f hf, fun c hc => ?_, fun q hq => (by cases hq), fun j pr hj => (by cases hj), fun j r hj i => Or.inl (hR j r hj i)⟩, hfr ρ' h1 h2 h3⟩
  · have he : e ∈ [e0, (1, q), (3, (0, 120))] := he
    simp only [List.mem_cons, List.not_mem_nil, or_false] at he
    rcases he with e1 | e1 | e1
    · subst e1
      show (0 : Int) ≤ ρ' 0 ∧ ρ' 0 ≤ 2560
      omega
    · subst e1
      show q.1 ≤ ρ' 1 ∧ ρ' 1 ≤ q.2
      rw [h1]
      exact hq
    · subst e1
      show (0 : Int) ≤ ρ' 3 ∧ ρ' 3 ≤ 120
      omega
  · have ec := List.mem_singleton.mp hc
    subst ec
    dsimp only
    rw [aev_co, aev_id, Int.toNat_natCast, h3]
    exact ⟨Int.natCast_nonneg _, ht⟩
theorem loc5 {ob : Nat} {l : aL} {plc : List (Option Value)} (h : aloc ρ (P5 ob (some (.inl l))) plc) : ∃ (v2 v3 : Option Value) (u : Int64) (k : Int32), plc = [some (.ref ob), some (.long u), v2, v3, some (.int k)] ∧ u.toInt = ρ 2 ∧ k.toInt = aev ρ l ∧ nv v2 ∧ nv v3 := by
  obtain ⟨v0, w0, e0', a0, h⟩ := alocC h
  obtain ⟨v1, w1, e1', a1, h⟩ := alocC h
  obtain ⟨v2, w2, e2', a2, h⟩ := alocC h
  obtain ⟨v3, w3, e3', a3, h⟩ := alocC h
  obtain ⟨v4, w4, e4', a4, h⟩ := alocC h
  have e5' := alocN h
  have b0 := alo1R a0
  obtain ⟨u, b1, d1⟩ := alo1L a1
  obtain ⟨k, b4, d4⟩ := alo1I a4
  subst b0; subst b1; subst b4; subst e5'; subst e4'; subst e3'; subst e2'; subst e1'; subst e0'
  rw [aev_id] at d1
  exact ⟨v2, v3, u, k, rfl, d1, d4, nv_of a2, nv_of a3⟩
theorem to5 {ob : Nat} {l : aL} {v2 v3 : Option Value} {u : Int64} {k : Int32} (hu : ρ 2 = u.toInt) (hk : k.toInt = aev ρ l) (h2 : nv v2) (h3 : nv v3) : aloc ρ (P5 ob (some (.inl l))) [some (.ref ob), some (.long u), v2, v3, some (.int k)] := ⟨rfl, (show u.toInt = aev ρ (aid 2) by rw [aev_id, hu]), nv_to h2, nv_to h3, hk, trivial⟩
theorem loc4 {ob : Nat} {plc : List (Option Value)} (h : aloc ρ [R_ ob, lgU, none, none] plc) : ∃ (v2 v3 : Option Value) (u : Int64), plc = [some (.ref ob), some (.long u), v2, v3] ∧ u.toInt = ρ 2 ∧ nv v2 ∧ nv v3 := by
  obtain ⟨v0, w0, e0', a0, h⟩ := alocC h
  obtain ⟨v1, w1, e1', a1, h⟩ := alocC h
  obtain ⟨v2, w2, e2', a2, h⟩ := alocC h
  obtain ⟨v3, w3, e3', a3, h⟩ := alocC h
  have e5' := alocN h
  have b0 := alo1R a0
  obtain ⟨u, b1, d1⟩ := alo1L a1
  subst b0; subst b1; subst e5'; subst e3'; subst e2'; subst e1'; subst e0'
  rw [aev_id] at d1
  exact ⟨v2, v3, u, rfl, d1, nv_of a2, nv_of a3⟩
/-- the loop of a feeding -/
theorem loopF (hL : L ≤ 2560) {y hp bp ap ob ar fb ye pe len a b w : Nat} {u : Int64} {f : Int → Int32} {afs : List aFr} {mfs : List cFr} {ple : List (Option aV)} {T n : Int} (hne : ar ≠ ob) (hiv : aIvF ob fb = some (0, 120))
    (r1 : arunG [] [] ([], []) [((y, bp, P5 ob (vi 1), [.inl (aid 3), r_ ar]) :: afs, kA_ (0, 7) [fitk] ob fb)] 4 (some (1, 0)) 100 ((y, hp, P5 ob (vi 1), []) :: afs) (kA_ (0, 7) [fitk] ob fb) = true)
    (r2 : arunG [] [] ([], [(ob, fb)]) [((y, hp, P5 ob km1, []) :: afs, (4, [e0], [], [((ob, aco fb), (1, [(3, 1)]))], [], [], []))] 4 (some (1, 0)) 100 ((y, ap, P5 ob (vi 1), []) :: afs) (kA_ (0, 7) [fitk] ob fb) = true)
    (r3 : arunG [] [] ([], []) [([(ye, pe, ple, [.inl (aid 3)])], (4, [e0], [], [], [], [], []))] 4 (some (1, 0)) 100 ((y, hp, P5 ob (vi 1), []) :: afs) (kA_ (-1, -1) [] ob fb) = true)
    (hIe : xI ye pe = some (.ireturn, len, a, b, w)) (hre : (xm ye).2.2.2.1 = some .int)
    (hfs : ∀ ρ : Nat → Int, ρ 2 = u.toInt → afrs ρ afs mfs) (hfs2 : ∀ (ρ : Nat → Int) (m : List cFr), ρ 2 = u.toInt → afrs ρ afs m → ∀ ρ2 : Nat → Int, ρ2 2 = u.toInt → afrs ρ2 afs m)
    (step : ∀ (M : xM) (k t : Int32) (v2 v3 : Option Value) (m : List cFr), 0 ≤ t.toInt → t.toInt < 120 → aGl xs L Q (xup M ar t.toInt.toNat (f k.toInt)) ((y, ap, [some (.ref ob), some (.long u), v2, v3, some (.int k)], []) :: m) → aGl xs L Q M ((y, bp, [some (.ref ob), some (.long u), v2, v3, some (.int k)], [.int t, .ref ar]) :: m))
    (hI : ∀ (M : xM) (i : Nat) (k : Int), aInv M → aRk M → aInv (xup M ar i (f k)) ∧ aRk (xup M ar i (f k)))
    (hwin : ∀ p i, aWin ([], [(ob, fb)]) p i = true → aWin ([ar], [(ob, fb)]) p i = true) (hwar : ∀ i, aWin ([ar], [(ob, fb)]) ar i = true) (hwob : ∀ p i, p ≠ ar → aWin ([ar], [(ob, fb)]) p i = false → (p ≠ ob ∨ i ≠ fb)) (hwn : ∀ i, aWin ([], [(ob, fb)]) ar i = false)
    (hQ : ∀ (x : Int32) (M' : xM), aInv M' → aRk M' → aUnw ([ar], [(ob, fb)]) M0 M' → (M' ob fb).toInt = T + n → x.toInt = T + n → fedI ar f T n n M0 M' → Q (some (.int x), 102, xsh0, M')) : ∀ (m : Nat) (M : xM) (k : Int32) (v2 v3 : Option Value) (mm : List cFr), k.toInt = (m : Int) - 1 → m ≤ 8 → nv v2 → nv v3 → (∀ ρ : Nat → Int, ρ 2 = u.toInt → afrs ρ afs mm) → aInv M → aRk M → aUnw ([ar], [(ob, fb)]) M0 M → (M ob fb).toInt + m = T + n → T + n ≤ 120 → fedI ar f T ((M ob fb).toInt - T) n M0 M → T ≤ (M ob fb).toInt → aGl xs L Q M ((y, hp, [some (.ref ob), some (.long u), v2, v3, some (.int k)], []) :: mm) := by
  intro m
  induction m with
  | zero =>
    intro M k v2 v3 mm hk h8 hv2 hv3 hmm hM hR hU hn hT hfed hge
    have ht := hM.1.2 ob fb (0, 120) hiv
    dsimp only at ht
    have hS := sdF (xs := xs) (L := L) (M := M) (ob := ob) (fb := fb) (q := (-1, -1)) (F := []) (n := k.toInt) (u := u.toInt) (fr := (y, hp, P5 ob (vi 1), []) :: afs) (cfr := (y, hp, [some (.ref ob), some (.long u), v2, v3, some (.int k)], []) :: mm) hL hR (by dsimp only; omega) rfl ht (fun ρ' _ _ f hf => by cases hf) (fun ρ' h1 h2 h3 => ⟨⟨rfl, rfl, to5 h2 (by rw [aev_id, h1]) hv2 hv3, trivial⟩, hmm ρ' h2⟩)
    refine seg prs0 allc0 hL r3 rfl hS hM (fun ρ1 M1 cfr1 hS1 hM1 hU1 hag1 => ?_)
    have eM := aUnw_nil hU1
    subst eM
    refine ret_i hIe hre hS1 (fun x hx => hQ x M1 hM hR hU (by omega) ?_ ?_)
    · rw [hx, aev_id, hag1 3 (by decide)]
      show (M1 ob fb).toInt = T + n
      omega
    · have : (M1 ob fb).toInt - T = n := by omega
      rw [this] at hfed
      exact hfed
  | succ m ih =>
    intro M k v2 v3 mm hk h8 hv2 hv3 hmm hM hR hU hn hT hfed hge
    have ht := hM.1.2 ob fb (0, 120) hiv
    dsimp only at ht
    have hS := sdF (xs := xs) (L := L) (M := M) (ob := ob) (fb := fb) (q := (0, 7)) (F := [fitk]) (n := k.toInt) (u := u.toInt) (fr := (y, hp, P5 ob (vi 1), []) :: afs) (cfr := (y, hp, [some (.ref ob), some (.long u), v2, v3, some (.int k)], []) :: mm) hL hR (by dsimp only; omega) rfl ht (fun ρ' h1 h3 f hf => by
      have ef := List.mem_singleton.mp hf
      subst ef
      show (-119 : Int) + (1 * ρ' 1 + (1 * ρ' 3 + 0)) ≤ 0
      omega) (fun ρ' h1 h2 h3 => ⟨⟨rfl, rfl, to5 h2 (by rw [aev_id, h1]) hv2 hv3, trivial⟩, hmm ρ' h2⟩)
    refine seg prs0 allc0 hL r1 rfl hS hM (fun ρ1 M1 cfr1 hS1 hM1 hU1 hag1 => ?_)
    have eM := aUnw_nil hU1
    subst eM
    obtain ⟨plc, skc, m1, e, hl, hst, hnl⟩ := afrs_cons (hS1 ρ1 (agr_refl _ _)).2
    obtain ⟨v2', v3', u', k', el, du, dk, nv2, nv3⟩ := loc5 hl
    obtain ⟨s0, w5, e6', a5, hst⟩ := astkC hst
    obtain ⟨s1, w6, e7', a6, hst⟩ := astkC hst
    have e8' := astkN hst
    obtain ⟨t, b5, d5⟩ := avalI a5
    have b6 := aval_ref a6
    have g1 : ρ1 1 = k.toInt := hag1 1 (by decide)
    have g2 : ρ1 2 = u.toInt := hag1 2 (by decide)
    have g3 : ρ1 3 = (M1 ob fb).toInt := hag1 3 (by decide)
    rw [aev_id] at dk d5
    have eu : u' = u := Int64.toInt_inj.mp (du.trans g2)
    have ek : k' = k := Int32.toInt_inj.mp (dk.trans g1)
    have et : t.toInt = (M1 ob fb).toInt := d5.trans g3
    subst eu; subst ek; subst b5; subst b6; subst e8'; subst e7'; subst e6'; subst el
    have hm1 : ∀ ρ : Nat → Int, ρ 2 = u'.toInt → afrs ρ afs m1 := fun ρ h => hfs2 ρ1 m1 g2 hnl ρ h
    rw [e]
    refine step M1 k' t v2' v3' m1 (by omega) (by omega) ?_
    obtain ⟨hM2, hR2⟩ := hI M1 t.toInt.toNat k'.toInt hM hR
    have hob : xup M1 ar t.toInt.toNat (f k'.toInt) ob fb = M1 ob fb := xup_ne (Or.inl (fun h => hne h.symm))
    have hS2 := sdF (xs := xs) (L := L) (M := xup M1 ar t.toInt.toNat (f k'.toInt)) (ob := ob) (fb := fb) (q := (0, 7)) (F := [fitk]) (n := k'.toInt) (u := u'.toInt) (t := (M1 ob fb).toInt) (fr := (y, ap, P5 ob (vi 1), []) :: afs) (cfr := (y, ap, [some (.ref ob), some (.long u'), v2', v3', some (.int k')], []) :: m1) hL hR2 (by dsimp only; omega) (by rw [hob]) ht (fun ρ' h1 h3 f hf => by
      have ef := List.mem_singleton.mp hf
      subst ef
      show (-119 : Int) + (1 * ρ' 1 + (1 * ρ' 3 + 0)) ≤ 0
      omega) (fun ρ' h1 h2 h3 => ⟨⟨rfl, rfl, to5 h2 (by rw [aev_id, h1]) nv2 nv3, trivial⟩, hm1 ρ' h2⟩)
    refine seg prs0 allc0 hL r2 rfl hS2 hM2 (fun ρ3 M3 cfr3 hS3 hM3 hU3 hag3 => ?_)
    obtain ⟨plc3, skc3, m3, e3, hl3, hst3, hnl3⟩ := afrs_cons (hS3 ρ3 (agr_refl _ _)).2
    obtain ⟨v2'', v3'', u3, k3, el3, du3, dk3, nv23, nv33⟩ := loc5 hl3
    have e93 := astkN hst3
    have q1 : ρ3 1 = k'.toInt := hag3 1 (by decide)
    have q2 : ρ3 2 = u'.toInt := hag3 2 (by decide)
    have q3 : ρ3 3 = (M1 ob fb).toInt := hag3 3 (by decide)
    rw [aev_s] at dk3
    have eu3 : u3 = u' := Int64.toInt_inj.mp (du3.trans q2)
    subst eu3; subst e93; subst el3
    have c3 := (hS3.ce (q := ((ob, aco fb), (1, [(3, 1)]))) (List.mem_cons_self ..)).2
    dsimp only at c3
    rw [aev_co, aev_s, q3, Int.toNat_natCast] at c3
    have hm3 : ∀ ρ : Nat → Int, ρ 2 = u3.toInt → afrs ρ afs m3 := fun ρ h => hfs2 ρ3 m3 q2 hnl3 ρ h
    rw [e3]
    refine ih M3 k3 v2'' v3'' m3 (by omega) (by omega) nv23 nv33 hm3 hM3 (hS3.rk rfl) ?_ (by omega) hT ?_ (by omega)
    · intro p i hp
      have hp2 : aWin ([], [(ob, fb)]) p i = false := by
        cases c : aWin ([], [(ob, fb)]) p i with
        | false => rfl
        | true => rw [hwin p i c] at hp; cases hp
      rw [hU3 p i hp2]
      by_cases hpa : p = ar
      · subst hpa
        rw [hwar i] at hp
        cases hp
      · rw [xup_ne (Or.inl hpa)]
        exact hU p i hp
    · intro i
      rw [hU3 ar i (hwn i)]
      have hi := hfed i
      by_cases ei : i = t.toInt.toNat
      · subst ei
        rw [xup_self]
        rw [if_pos (by omega)]
        congr 1
        omega
      · rw [xup_ne (Or.inr ei), hi]
        by_cases c : T ≤ i ∧ (i : Int) < T + ((M1 ob fb).toInt - T)
        · rw [if_pos c, if_pos (by omega)]
        · rw [if_neg c, if_neg (by omega)]
end AYF
