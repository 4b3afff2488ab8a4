/-! FEED, both sides -/
def g112 (pc : Nat) (st : List aV) : List aFr := [(112, pc, [R_ 0, lgU, none, vi 1], st)]
def g172 (pc : Nat) (st : List aV) : List aFr := [(172, pc, [R_ 56, lgU, none, vi 1, none], st)]
def t112 : List aFr := [(112, 33, [R_ 0, lgU, none, none], [])]
def kE_ (ob fb : Nat) : aKn := (4, [e0], [], [((ob, aco fb), aid 3)], [], [], [])
def neg_ : Int × Int := (-2147483648, 0)
def big_ : Int × Int := (9, 2147483647)
theorem r112_a : arunG [] [] ([], []) [(g112 12 [.inl (aco (-2))], kE_ 15 1)] 4 (some (1, 0)) 100 (g112 0 []) (kA_ neg_ [] 15 1) = true := by decide +kernel
theorem r112_b : arunG [] [] ([], []) [(g112 12 [.inl (aco (-2))], kE_ 15 1)] 4 (some (1, 0)) 100 (g112 0 []) (kA_ big_ [] 15 1) = true := by decide +kernel
theorem r112_c : arunG [] [] ([], []) [(g112 38 [.inl (aco (-4))], kE_ 15 1)] 4 (some (1, 0)) 100 (g112 0 []) (kA_ (1, 8) [over_] 15 1) = true := by decide +kernel
theorem r112_d : arunG [] [] ([], []) [((88, 5, P5 15 km1, []) :: t112, kE_ 15 1)] 4 (some (1, 0)) 100 (g112 0 []) (kA_ (1, 8) [fit_] 15 1) = true := by decide +kernel
theorem r88_1 : arunG [] [] ([], []) [((88, 18, P5 15 (vi 1), [.inl (aid 3), r_ 16]) :: t112, kA_ (0, 7) [fitk] 15 1)] 4 (some (1, 0)) 100 ((88, 5, P5 15 (vi 1), []) :: t112) (kA_ (0, 7) [fitk] 15 1) = true := by decide +kernel
theorem r88_2 : arunG [] [] ([], [(15, 1)]) [((88, 5, P5 15 km1, []) :: t112, (4, [e0], [], [((15, aco (1 : Nat)), (1, [(3, 1)]))], [], [], []))] 4 (some (1, 0)) 100 ((88, 31, P5 15 (vi 1), []) :: t112) (kA_ (0, 7) [fitk] 15 1) = true := by decide +kernel
theorem r88_3 : arunG [] [] ([], []) [([(112, 38, [R_ 0, lgU, none, none], [.inl (aid 3)])], (4, [e0], [], [], [], [], []))] 4 (some (1, 0)) 100 ((88, 5, P5 15 (vi 1), []) :: t112) (kA_ (-1, -1) [] 15 1) = true := by decide +kernel
theorem r172_a : arunG [] [] ([], []) [(g172 14 [.inl (aco (-2))], kE_ 56 16)] 4 (some (1, 0)) 100 (g172 0 []) (kA_ neg_ [] 56 16) = true := by decide +kernel
theorem r172_b : arunG [] [] ([], []) [(g172 14 [.inl (aco (-2))], kE_ 56 16)] 4 (some (1, 0)) 100 (g172 0 []) (kA_ big_ [] 56 16) = true := by decide +kernel
theorem r172_c : arunG [] [] ([], []) [(g172 28 [.inl (aco (-4))], kE_ 56 16)] 4 (some (1, 0)) 100 (g172 0 []) (kA_ (1, 8) [over_] 56 16) = true := by decide +kernel
theorem r172_d : arunG [] [] ([], []) [((172, 34, P5 56 km1, []) :: [], kE_ 56 16)] 4 (some (1, 0)) 100 (g172 0 []) (kA_ (1, 8) [fit_] 56 16) = true := by decide +kernel
theorem r172_1 : arunG [] [] ([], []) [((172, 47, P5 56 (vi 1), [.inl (aid 3), r_ 70]) :: [], kA_ (0, 7) [fitk] 56 16)] 4 (some (1, 0)) 100 ((172, 34, P5 56 (vi 1), []) :: []) (kA_ (0, 7) [fitk] 56 16) = true := by decide +kernel
theorem r172_2 : arunG [] [] ([], [(56, 16)]) [((172, 34, P5 56 km1, []) :: [], (4, [e0], [], [((56, aco (16 : Nat)), (1, [(3, 1)]))], [], [], []))] 4 (some (1, 0)) 100 ((172, 57, P5 56 (vi 1), []) :: []) (kA_ (0, 7) [fitk] 56 16) = true := by decide +kernel
theorem r172_3 : arunG [] [] ([], []) [([(172, 77, P5 56 (vi 1), [.inl (aid 3)])], (4, [e0], [], [], [], [], []))] 4 (some (1, 0)) 100 ((172, 34, P5 56 (vi 1), []) :: []) (kA_ (-1, -1) [] 56 16) = true := by decide +kernel
section AYG
variable {xs : Nat → Int32} {L : Nat} {ρ : Nat → Int} {M M0 : xM} {Q : xZ → Prop}
theorem x88 {v0 v2 v3 : Option Value} {u : Int64} {k t : Int32} (kk : PL xs L 88 (30, [v0, some (.long u), v2, v3, some (.int k)], [.int (cb u k), .int t, .ref 16], 102, xsh0, M) Q) : PL xs L 88 (18, [v0, some (.long u), v2, v3, some (.int k)], [.int t, .ref 16], 102, xsh0, M) Q := PL.go (k := 8) rfl kk
theorem x172 {v0 v2 v3 : Option Value} {u : Int64} {k t : Int32} (kk : PL xs L 172 (56, [v0, some (.long u), v2, v3, some (.int k)], [.int (mb u k), .int t, .ref 70], 102, xsh0, M) Q) : PL xs L 172 (47, [v0, some (.long u), v2, v3, some (.int k)], [.int t, .ref 70], 102, xsh0, M) Q := PL.go (k := 7) rfl kk
theorem ys_bastb {y pc len a b w p n : Nat} {pl : List (Option Value)} {sk : List Value} {M : xM} {x i : Int32} (hI : xI y pc = some (.bastore, len, a, b, w)) (hs : xsh0[p]? = some (.inl (.byte, n))) (h0 : 0 ≤ i.toInt) (h1 : i.toInt < (n : Int)) : xstep xs L y (pc, pl, .int x :: .int i :: .ref p :: sk, 102, xsh0, M) = some (.inl (pc + 1, pl, sk, 102, xsh0, xup M p i.toNatClampNeg (vp_nar .byte x))) := by
  rw [xI_step hI]
  show xo_bast (pc, pl, .int x :: .int i :: .ref p :: sk, 102, xsh0, M) = _
  unfold xo_bast
  dsimp only
  rw [hs]
  dsimp only
  rw [(xout_ok h0 h1).1]
  rfl
theorem step88 (u : Int64) (M : xM) (k t : Int32) (v2 v3 : Option Value) (m : List cFr) (h0 : 0 ≤ t.toInt) (h1 : t.toInt < 120) (kk : aGl xs L Q (xup M 16 t.toInt.toNat (cb u (Int32.ofInt k.toInt))) ((88, 31, [some (.ref 15), some (.long u), v2, v3, some (.int k)], []) :: m)) : aGl xs L Q M ((88, 18, [some (.ref 15), some (.long u), v2, v3, some (.int k)], [.int t, .ref 16]) :: m) := by
  rw [ofI] at kk
  show PL xs L 88 (18, [some (.ref 15), some (.long u), v2, v3, some (.int k)], [.int t, .ref 16], 102, xsh0, M) _
  refine x88 (PL.next (ys_iast (p := 16) (n := 120) rfl rfl h0 h1) ?_)
  rw [natC rfl h0]
  exact kk
theorem step172 (u : Int64) (M : xM) (k t : Int32) (v2 v3 : Option Value) (m : List cFr) (h0 : 0 ≤ t.toInt) (h1 : t.toInt < 120) (kk : aGl xs L Q (xup M 70 t.toInt.toNat (mb u (Int32.ofInt k.toInt))) ((172, 57, [some (.ref 56), some (.long u), v2, v3, some (.int k)], []) :: m)) : aGl xs L Q M ((172, 47, [some (.ref 56), some (.long u), v2, v3, some (.int k)], [.int t, .ref 70]) :: m) := by
  rw [ofI] at kk
  show PL xs L 172 (47, [some (.ref 56), some (.long u), v2, v3, some (.int k)], [.int t, .ref 70], 102, xsh0, M) _
  refine x172 (PL.next (ys_bastb (p := 70) (n := 120) rfl rfl h0 h1) ?_)
  rw [natC rfl h0, vp_nar_b (mb_i u k).1 (mb_i u k).2]
  exact kk
theorem up16 {M : xM} {i : Nat} {x : Int32} (hM : aInv M) (hR : aRk M) : aInv (xup M 16 i x) ∧ aRk (xup M 16 i x) := by
  refine ⟨⟨aIvOk_fr hM.1 (fun p j => ?_), aX_fr hM.2 (fun p j hp => xup_ne (Or.inl (fun h => ?_)))⟩, aRk_fr hR (fun p j hp => xup_ne (Or.inl (fun h => ?_)))⟩
  · by_cases c : p = 16
    · subst c
      refine Or.inr ⟨fun q hq => ?_, fun q hq => ?_⟩
      · cases hq
      · exact absurd hq (by
          have : ∀ j, aIvF 16 j = none := fun j => rfl
          rw [this]
          exact fun h => by cases h)
    · exact Or.inl (xup_ne (Or.inl c))
  · subst h
    cases hp
  · subst h
    cases hp
theorem up70 {M : xM} {i : Nat} {x : Int32} (hx : -128 ≤ x.toInt ∧ x.toInt ≤ 127) (hM : aInv M) (hR : aRk M) : aInv (xup M 70 i x) ∧ aRk (xup M 70 i x) := by
  refine ⟨⟨aIvOk_fr hM.1 (fun p j => ?_), aX_fr hM.2 (fun p j hp => xup_ne (Or.inl (fun h => ?_)))⟩, aRk_fr hR (fun p j hp => xup_ne (Or.inl (fun h => ?_)))⟩
  · by_cases c : p = 70
    · subst c
      by_cases cj : j = i
      · subst cj
        rw [xup_self]
        refine Or.inr ⟨fun q hq => ?_, fun q hq => ?_⟩
        · have eq : q = (-128, 127) := (Option.some.inj hq).symm
          subst eq
          exact hx
        · exact absurd hq (by
            have : ∀ j, aIvF 70 j = none := fun j => rfl
            rw [this]
            exact fun h => by cases h)
      · exact Or.inl (xup_ne (Or.inr cj))
    · exact Or.inl (xup_ne (Or.inl c))
  · subst h
    cases hp
  · subst h
    cases hp
theorem fedI_0 {p : Nat} {f : Int → Int32} {T n : Int} : fedI p f T 0 n M0 M0 := fun i => by
  rw [if_neg (by omega)]
def wF1 : aW := ([16], [(15, 1)])
def wF2 : aW := ([70], [(56, 16)])
theorem win1 {ar ob fb : Nat} (p i : Nat) (h : aWin ([], [(ob, fb)]) p i = true) : aWin ([ar], [(ob, fb)]) p i = true := by
  unfold aWin at h ⊢
  rw [Bool.or_eq_true] at h ⊢
  rcases h with h | h
  · cases h
  · exact Or.inr h
theorem f112_ (hL : L ≤ 2560) (hM : aInv M0) (hR : aRk M0) {u : Int64} {n : Int32} (hbad : ¬ (1 ≤ n.toInt ∧ n.toInt ≤ 8) → Q (some (.int (-2)), 102, xsh0, M0)) (hfull : 1 ≤ n.toInt ∧ n.toInt ≤ 8 → 120 < (M0 15 1).toInt + n.toInt → Q (some (.int (-4)), 102, xsh0, M0)) (hok : 1 ≤ n.toInt ∧ n.toInt ≤ 8 → (M0 15 1).toInt + n.toInt ≤ 120 → ∀ (x : Int32) (M' : xM), aInv M' → aRk M' → aUnw wF1 M0 M' → (M' 15 1).toInt = (M0 15 1).toInt + n.toInt → x.toInt = (M0 15 1).toInt + n.toInt → fedI 16 (fun k => cb u (Int32.ofInt k)) (M0 15 1).toInt n.toInt n.toInt M0 M' → Q (some (.int x), 102, xsh0, M')) : PL xs L 112 (0, xent 112 [.ref 0, .long u, .int n], [], 102, xsh0, M0) Q := by
  have ht := hM.1.2 15 1 (0, 120) rfl
  dsimp only at ht
  have hb1 := Int32.le_toInt n
  have hb2 := Int32.toInt_lt n
  show aGl xs L Q M0 [(112, 0, xent 112 [.ref 0, .long u, .int n], [])]
  have hfr : ∀ ρ' : Nat → Int, ρ' 1 = n.toInt → ρ' 2 = u.toInt → ρ' 3 = (M0 15 1).toInt → afrs ρ' (g112 0 []) [(112, 0, xent 112 [.ref 0, .long u, .int n], [])] := fun ρ' h1 h2 h3 => ⟨⟨rfl, rfl, ⟨rfl, (show u.toInt = aev ρ' (aid 2) by rw [aev_id, h2]), trivial, (show n.toInt = aev ρ' (aid 1) by rw [aev_id, h1]), trivial⟩, trivial⟩, trivial⟩
  have neg2 : ∀ {q : Int × Int}, arunG [] [] ([], []) [(g112 12 [.inl (aco (-2))], kE_ 15 1)] 4 (some (1, 0)) 100 (g112 0 []) (kA_ q [] 15 1) = true → q.1 ≤ n.toInt ∧ n.toInt ≤ q.2 → ¬ (1 ≤ n.toInt ∧ n.toInt ≤ 8) → aGl xs L Q M0 [(112, 0, xent 112 [.ref 0, .long u, .int n], [])] := by
    intro q hr hq hno
    refine seg prs0 allc0 hL hr rfl (sdF hL hR hq rfl ht (fun ρ' _ _ f hf => by cases hf) hfr) hM (fun ρ1 M1 cfr1 hS1 hM1 hU1 hag1 => ?_)
    have eM := aUnw_nil hU1
    subst eM
    refine ret_i (y := 112) (pc := 12) rfl rfl hS1 (fun x hx => ?_)
    rw [aev_co] at hx
    have ex : x = -2 := Int32.toInt_inj.mp (by rw [hx]; rfl)
    subst ex
    exact hbad hno
  by_cases c1 : n.toInt ≤ 0
  · exact neg2 r112_a ⟨by show (-2147483648 : Int) ≤ _; exact hb1, c1⟩ (by omega)
  · by_cases c2 : 9 ≤ n.toInt
    · exact neg2 r112_b ⟨c2, by show _ ≤ (2147483647 : Int); omega⟩ (by omega)
    · by_cases c3 : 120 < (M0 15 1).toInt + n.toInt
      · refine seg prs0 allc0 hL r112_c rfl (sdF hL hR (by dsimp only; omega) rfl ht (fun ρ' h1 h3 f hf => by
          have ef := List.mem_singleton.mp hf
          subst ef
          show (121 : Int) + (-1 * ρ' 1 + (-1 * ρ' 3 + 0)) ≤ 0
          omega) hfr) hM (fun ρ1 M1 cfr1 hS1 hM1 hU1 hag1 => ?_)
        have eM := aUnw_nil hU1
        subst eM
        refine ret_i (y := 112) (pc := 38) rfl rfl hS1 (fun x hx => ?_)
        rw [aev_co] at hx
        have ex : x = -4 := Int32.toInt_inj.mp (by rw [hx]; rfl)
        subst ex
        exact hfull (by omega) c3
      · refine seg prs0 allc0 hL r112_d rfl (sdF hL hR (by dsimp only; omega) rfl ht (fun ρ' h1 h3 f hf => by
          have ef := List.mem_singleton.mp hf
          subst ef
          show (-120 : Int) + (1 * ρ' 1 + (1 * ρ' 3 + 0)) ≤ 0
          omega) hfr) hM (fun ρ1 M1 cfr1 hS1 hM1 hU1 hag1 => ?_)
        have eM := aUnw_nil hU1
        subst eM
        obtain ⟨plc, skc, m1, e, hl, hst, hnl⟩ := afrs_cons (hS1 ρ1 (agr_refl _ _)).2
        obtain ⟨v2, v3, u', k', el, du, dk, nv2, nv3⟩ := loc5 hl
        have e8 := astkN hst
        obtain ⟨plc2, skc2, m2, e2, hl2, hst2, hnl2⟩ := afrs_cons hnl
        obtain ⟨w2, w3, u2, el2, du2, nw2, nw3⟩ := loc4 hl2
        have e9 := astkN hst2
        have e10 := afrs_nil hnl2
        have g1 : ρ1 1 = n.toInt := hag1 1 (by decide)
        have g2 : ρ1 2 = u.toInt := hag1 2 (by decide)
        rw [aev_s] at dk
        have eu : u' = u := Int64.toInt_inj.mp (du.trans g2)
        have eu2 : u2 = u := Int64.toInt_inj.mp (du2.trans g2)
        subst eu; subst eu2; subst e8; subst e9; subst e10; subst el; subst el2; subst e2
        rw [e]
        refine loopF (y := 88) (hp := 5) (bp := 18) (ap := 31) (ob := 15) (ar := 16) (fb := 1) (u := u2) (f := fun k => cb u2 (Int32.ofInt k)) (afs := t112) (mfs := [(112, 33, [some (.ref 0), some (.long u2), w2, w3], [])]) (T := (M1 15 1).toInt) (n := n.toInt) (M0 := M1) hL (by decide) rfl r88_1 r88_2 r88_3 rfl rfl (fun ρ h => ?_) (fun ρ m h hm ρ2 h2 => ?_) (fun M k t v2 v3 m => step88 u2 M k t v2 v3 m) (fun M i k a b => up16 a b) win1 (fun i => rfl) (fun p i hp hw => ?_) (fun i => rfl) (fun x M' b1 b2 b3 b4 b5 b6 => hok (by omega) (by omega) x M' b1 b2 b3 b4 b5 b6) n.toInt.toNat M1 k' v2 v3 _ (by omega) (by omega) nv2 nv3 (fun ρ h => ?_) hM hR (aUnw.refl _ _) (by omega) (by omega) ?_ (Int.le_refl _)
        · exact ⟨⟨rfl, rfl, ⟨rfl, (show u2.toInt = aev ρ (aid 2) by rw [aev_id, h]), nv_to nw2, nv_to nw3, trivial⟩, trivial⟩, trivial⟩
        · obtain ⟨plc, skc, m1, e, hl, hst, hnl⟩ := afrs_cons hm
          obtain ⟨v2, v3, u', el, du, nv2, nv3⟩ := loc4 hl
          have e8 := astkN hst
          have e9 := afrs_nil hnl
          have eu : u' = u2 := Int64.toInt_inj.mp (du.trans h)
          subst eu; subst e8; subst e9; subst el; subst e
          exact ⟨⟨rfl, rfl, ⟨rfl, (show u'.toInt = aev ρ2 (aid 2) by rw [aev_id, h2]), nv_to nv2, nv_to nv3, trivial⟩, trivial⟩, trivial⟩
        · by_cases c : p ≠ 15 ∨ i ≠ 1
          · exact c
          · have : p = 15 ∧ i = 1 := by omega
            obtain ⟨rfl, rfl⟩ := this
            cases hw
        · exact ⟨⟨rfl, rfl, ⟨rfl, (show u2.toInt = aev ρ (aid 2) by rw [aev_id, h]), nv_to nw2, nv_to nw3, trivial⟩, trivial⟩, trivial⟩
        · rw [Int.sub_self]
          exact fedI_0
theorem f172_ (hL : L ≤ 2560) (hM : aInv M0) (hR : aRk M0) {u : Int64} {n : Int32} (hbad : ¬ (1 ≤ n.toInt ∧ n.toInt ≤ 8) → Q (some (.int (-2)), 102, xsh0, M0)) (hfull : 1 ≤ n.toInt ∧ n.toInt ≤ 8 → 120 < (M0 56 16).toInt + n.toInt → Q (some (.int (-4)), 102, xsh0, M0)) (hok : 1 ≤ n.toInt ∧ n.toInt ≤ 8 → (M0 56 16).toInt + n.toInt ≤ 120 → ∀ (x : Int32) (M' : xM), aInv M' → aRk M' → aUnw wF2 M0 M' → (M' 56 16).toInt = (M0 56 16).toInt + n.toInt → x.toInt = (M0 56 16).toInt + n.toInt → fedI 70 (fun k => mb u (Int32.ofInt k)) (M0 56 16).toInt n.toInt n.toInt M0 M' → Q (some (.int x), 102, xsh0, M')) : PL xs L 172 (0, xent 172 [.ref 56, .long u, .int n], [], 102, xsh0, M0) Q := by
  have ht := hM.1.2 56 16 (0, 120) rfl
  dsimp only at ht
  have hb1 := Int32.le_toInt n
  have hb2 := Int32.toInt_lt n
  show aGl xs L Q M0 [(172, 0, xent 172 [.ref 56, .long u, .int n], [])]
  have hfr : ∀ ρ' : Nat → Int, ρ' 1 = n.toInt → ρ' 2 = u.toInt → ρ' 3 = (M0 56 16).toInt → afrs ρ' (g172 0 []) [(172, 0, xent 172 [.ref 56, .long u, .int n], [])] := fun ρ' h1 h2 h3 => ⟨⟨rfl, rfl, ⟨rfl, (show u.toInt = aev ρ' (aid 2) by rw [aev_id, h2]), trivial, (show n.toInt = aev ρ' (aid 1) by rw [aev_id, h1]), trivial, trivial⟩, trivial⟩, trivial⟩
  have neg2 : ∀ {q : Int × Int}, arunG [] [] ([], []) [(g172 14 [.inl (aco (-2))], kE_ 56 16)] 4 (some (1, 0)) 100 (g172 0 []) (kA_ q [] 56 16) = true → q.1 ≤ n.toInt ∧ n.toInt ≤ q.2 → ¬ (1 ≤ n.toInt ∧ n.toInt ≤ 8) → aGl xs L Q M0 [(172, 0, xent 172 [.ref 56, .long u, .int n], [])] := by
    intro q hr hq hno
    refine seg prs0 allc0 hL hr rfl (sdF hL hR hq rfl ht (fun ρ' _ _ f hf => by cases hf) hfr) hM (fun ρ1 M1 cfr1 hS1 hM1 hU1 hag1 => ?_)
    have eM := aUnw_nil hU1
    subst eM
    refine ret_i (y := 172) (pc := 14) rfl rfl hS1 (fun x hx => ?_)
    rw [aev_co] at hx
    have ex : x = -2 := Int32.toInt_inj.mp (by rw [hx]; rfl)
    subst ex
    exact hbad hno
  by_cases c1 : n.toInt ≤ 0
  · exact neg2 r172_a ⟨by show (-2147483648 : Int) ≤ _; exact hb1, c1⟩ (by omega)
  · by_cases c2 : 9 ≤ n.toInt
    · exact neg2 r172_b ⟨c2, by show _ ≤ (2147483647 : Int); omega⟩ (by omega)
    · by_cases c3 : 120 < (M0 56 16).toInt + n.toInt
      · refine seg prs0 allc0 hL r172_c rfl (sdF hL hR (by dsimp only; omega) rfl ht (fun ρ' h1 h3 f hf => by
          have ef := List.mem_singleton.mp hf
          subst ef
          show (121 : Int) + (-1 * ρ' 1 + (-1 * ρ' 3 + 0)) ≤ 0
          omega) hfr) hM (fun ρ1 M1 cfr1 hS1 hM1 hU1 hag1 => ?_)
        have eM := aUnw_nil hU1
        subst eM
        refine ret_i (y := 172) (pc := 28) rfl rfl hS1 (fun x hx => ?_)
        rw [aev_co] at hx
        have ex : x = -4 := Int32.toInt_inj.mp (by rw [hx]; rfl)
        subst ex
        exact hfull (by omega) c3
      · refine seg prs0 allc0 hL r172_d rfl (sdF hL hR (by dsimp only; omega) rfl ht (fun ρ' h1 h3 f hf => by
          have ef := List.mem_singleton.mp hf
          subst ef
          show (-120 : Int) + (1 * ρ' 1 + (1 * ρ' 3 + 0)) ≤ 0
          omega) hfr) hM (fun ρ1 M1 cfr1 hS1 hM1 hU1 hag1 => ?_)
        have eM := aUnw_nil hU1
        subst eM
        obtain ⟨plc, skc, m1, e, hl, hst, hnl⟩ := afrs_cons (hS1 ρ1 (agr_refl _ _)).2
        obtain ⟨v2, v3, u', k', el, du, dk, nv2, nv3⟩ := loc5 hl
        have e8 := astkN hst
        have e10 := afrs_nil hnl
        have g1 : ρ1 1 = n.toInt := hag1 1 (by decide)
        have g2 : ρ1 2 = u.toInt := hag1 2 (by decide)
        rw [aev_s] at dk
        have eu : u' = u := Int64.toInt_inj.mp (du.trans g2)
        subst eu; subst e8; subst e10; subst el
        rw [e]
        refine loopF (y := 172) (hp := 34) (bp := 47) (ap := 57) (ob := 56) (ar := 70) (fb := 16) (u := u') (f := fun k => mb u' (Int32.ofInt k)) (afs := []) (mfs := []) (T := (M1 56 16).toInt) (n := n.toInt) (M0 := M1) hL (by decide) rfl r172_1 r172_2 r172_3 rfl rfl (fun ρ h => trivial) (fun ρ m h hm ρ2 h2 => ?_) (fun M k t v2 v3 m => step172 u' M k t v2 v3 m) (fun M i k a b => up70 (mb_i u' _) a b) win1 (fun i => rfl) (fun p i hp hw => ?_) (fun i => rfl) (fun x M' b1 b2 b3 b4 b5 b6 => hok (by omega) (by omega) x M' b1 b2 b3 b4 b5 b6) n.toInt.toNat M1 k' v2 v3 _ (by omega) (by omega) nv2 nv3 (fun ρ h => trivial) hM hR (aUnw.refl _ _) (by omega) (by omega) ?_ (Int.le_refl _)
        · have e9 := afrs_nil hm
          subst e9
          trivial
        · by_cases c : p ≠ 56 ∨ i ≠ 16
          · exact c
          · have : p = 56 ∧ i = 16 := by omega
            obtain ⟨rfl, rfl⟩ := this
            cases hw
        · rw [Int.sub_self]
          exact fedI_0
end AYG
