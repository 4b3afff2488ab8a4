/-! BY HAND: the reference's foreseen: each round of its loop releases one NAME more -/
def b201 (f : List aV) (pc : Nat) (l2 l3 l4 l5 : Option aV) : List aFr := [(201, pc, [some (.inr (.inr (.inl 56))), some (.inl (aid 1)), l2, l3, l4, l5], f)]
def vi (k : Nat) : Option aV := some (.inl (aid k))
def e201 : aE := [(0, (0, 2560)), (1, aFull), (2, (-1, 7))]
/-- loop one -/
def cA201 : aCut := (b201 [] 7 (vi 2) none none none, (3, [(0, (0, 2560)), (1, aFull), (2, (0, 8))], [], [], [], [], []), [aco 1, asub (aco 8) (aid 2)])
def cB201 : aCut := (b201 [] 35 (vi 2) (vi 3) none none, (4, e201 ++ [(3, (0, 1))], [], [], [], [], []), [aco 0, aco 0])
def cC1 : aCut := (b201 [] 45 (vi 2) none (some (.inl (aco (-1)))) (vi 3), (4, e201 ++ [(3, (0, 8))], [], [], [], [], []), [aco 2, asub (aco 8) (aid 3)])
def cC2 : aCut := (b201 [] 45 (vi 2) none (vi 4) (vi 3), (6, e201 ++ [(3, (0, 8)), (4, (0, 7)), (5, (0, 0))], [], [((91, aid 4), aid 5)], [], [], []), [aco 2, asub (aco 8) (aid 3)])
def cD201 : aCut := (b201 [] 102 (vi 2) none (vi 4) (vi 3), (6, e201 ++ [(3, (-1, 7)), (4, (0, 7)), (5, (0, 0))], [], [((91, aid 4), aid 5)], [], [], []), [aco 1, aadd (aco 1) (aid 3)])
def cE201 : aCut := (b201 [.inl (aco 1), .inl (aid 4), .inr (.inr (.inl 91))] 156 (vi 2) none none none, (6, e201 ++ [(4, (0, 7)), (5, (0, 0))], [], [((91, aid 4), aid 5)], [], [], []), [aco 0, aco 0])
def cG201 : aCut := (b201 [] 171 (vi 2) none none none, (3, e201, [], [], [], [], []), [aco 0, aco 0])
def cF201 : aCut := (b201 [] 157 (vi 2) none none none, (6, e201 ++ [(4, (0, 7)), (5, (0, 0))], [], [], [], [], []), [aco 0, aco 0])
def cH201 : aCut := ([(201, 189, [some (.inr (.inr (.inl 56))), none, vi 1, none, vi 2, none], [])], (3, [(0, (0, 2560)), (1, (-1, 7)), (2, (0, 8))], [], [], [], [], []), [aco 1, asub (aco 8) (aid 2)])
def w1_201 : aW := ([95], [])
def w2_201 : aW := ([93, 94], [(56, 43)])
def w4_201 : aW := ([91], [(56, 43), (56, 50)])
theorem r201_1 : acksX [] [] w1_201 (some (1, 0)) 2 200 [cA201] [cB201] = true := by decide +kernel
theorem r201_0 : arun [] [] w1_201 ([cA201] ++ [cB201]) none (some (1, 0)) 200 [(201, 0, axent 201 (aen ct_201.2.1 1 [(0, (0, 2560))]).1, [])] (aK0 ct_201) = true := by decide +kernel
theorem r201_2 : acksX [] [ct_198] w2_201 (some (1, 0)) 2 200 [cC1, cC2, cD201] [cE201, cG201] = true := by decide +kernel
theorem r201_2s : arun [] [ct_198] w2_201 ([cC1, cC2, cD201] ++ [cE201, cG201]) none (some (1, 0)) 200 cB201.1 cB201.2.1 = true := by decide +kernel
theorem r201_3 : arun [] [] ([], []) ([] ++ [cB201]) none (some (1, 0)) 200 cF201.1 cF201.2.1 = true := by decide +kernel
theorem r201_3x : acksX [] [] ([], []) (some (1, 0)) 2 200 [] [cB201] = true := by decide +kernel
theorem r201_4 : acksX [] [] w4_201 (some (-1, 7)) 2 200 [cH201] [] = true := by decide +kernel
theorem r201_4s : arun [] [] w4_201 ([cH201] ++ []) none (some (-1, 7)) 200 cG201.1 cG201.2.1 = true := by decide +kernel
section A201
variable {xs : Nat → Int32} {L : Nat} {M M' M00 : xM}
theorem aUnw_sub {w w' : aW} (h : awsub w' w = true) (hU : aUnw w' M M') : aUnw w M M' := fun p i e => hU p i (awsub_of h e)
theorem aPost_no {w : aW} {r : xZ} {P : Prop} (h : aPost (some (1, 0)) w M r) : P := by
  obtain ⟨M', er, -, -, hres, -⟩ := h
  obtain ⟨rv, r2⟩ := r
  match rv, hres with
  | some (.int x), hres =>
    have : (1 : Int) ≤ x.toInt ∧ x.toInt ≤ 0 := hres
    exact absurd this (by omega)
theorem aPost_up {res : Option (Int × Int)} {w w' : aW} {r : xZ} (hs : awsub w' w = true) (hU : aUnw w M M') (h : aPost res w' M' r) : aPost res w M r := by
  obtain ⟨M2, er, h1, h2, h3, h4⟩ := h
  exact ⟨M2, er, h1, h2, h3, hU.trans (aUnw_sub hs h4)⟩
def z1 (M : xM) (i : Nat) : Nat := if M 91 i = 0 then 1 else 0
def z91 (M : xM) : Nat := z1 M 0 + z1 M 1 + z1 M 2 + z1 M 3 + z1 M 4 + z1 M 5 + z1 M 6 + z1 M 7
theorem z91_lt {l : Nat} (hl : l < 8) (h : M 91 l = 0) : z91 (xup M 91 l 1) < z91 M := by
  have hs : z1 (xup M 91 l 1) l = 0 := by
    unfold z1
    rw [xup_self]
    exact if_neg (by decide)
  have h1 : z1 M l = 1 := if_pos h
  have hne : ∀ i, i ≠ l → z1 (xup M 91 l 1) i = z1 M i := fun i hi => by
    unfold z1
    rw [xup_ne (Or.inr hi)]
  unfold z91
  match l, hl with
  | 0, _ => rw [hs, h1, hne 1 (by decide), hne 2 (by decide), hne 3 (by decide), hne 4 (by decide), hne 5 (by decide), hne 6 (by decide), hne 7 (by decide)]; omega
  | 1, _ => rw [hs, h1, hne 0 (by decide), hne 2 (by decide), hne 3 (by decide), hne 4 (by decide), hne 5 (by decide), hne 6 (by decide), hne 7 (by decide)]; omega
  | 2, _ => rw [hs, h1, hne 0 (by decide), hne 1 (by decide), hne 3 (by decide), hne 4 (by decide), hne 5 (by decide), hne 6 (by decide), hne 7 (by decide)]; omega
  | 3, _ => rw [hs, h1, hne 0 (by decide), hne 1 (by decide), hne 2 (by decide), hne 4 (by decide), hne 5 (by decide), hne 6 (by decide), hne 7 (by decide)]; omega
  | 4, _ => rw [hs, h1, hne 0 (by decide), hne 1 (by decide), hne 2 (by decide), hne 3 (by decide), hne 5 (by decide), hne 6 (by decide), hne 7 (by decide)]; omega
  | 5, _ => rw [hs, h1, hne 0 (by decide), hne 1 (by decide), hne 2 (by decide), hne 3 (by decide), hne 4 (by decide), hne 6 (by decide), hne 7 (by decide)]; omega
  | 6, _ => rw [hs, h1, hne 0 (by decide), hne 1 (by decide), hne 2 (by decide), hne 3 (by decide), hne 4 (by decide), hne 5 (by decide), hne 7 (by decide)]; omega
  | 7, _ => rw [hs, h1, hne 0 (by decide), hne 1 (by decide), hne 2 (by decide), hne 3 (by decide), hne 4 (by decide), hne 5 (by decide), hne 6 (by decide)]; omega
theorem z91_eq (h : ∀ i, M' 91 i = M 91 i) : z91 M' = z91 M := by
  unfold z91 z1
  simp only [h]
theorem k198 (hL : L ≤ 2560) : aCon xs L ct_198 := by
  have k170 : aCon xs L ct_170 := ackc_of hL allc_nil ck_ct_170
  have k181 : aCon xs L ct_181 := ackc_of hL allc_nil ck_ct_181
  have k182 : aCon xs L ct_182 := ackc_of hL (allc k181 allc_nil) ck_ct_182
  have k183 : aCon xs L ct_183 := ackc_of hL (allc k182 allc_nil) ck_ct_183
  have k196 : aCon xs L ct_196 := ackc_of hL allc_nil ck_ct_196
  have k195 : aCon xs L ct_195 := ackc_of hL allc_nil ck_ct_195
  have k196' : aCon xs L ct_196_1 := ackc_of hL allc_nil ck_ct_196_1
  have k197 : aCon xs L ct_197 := ackc_of hL (allc k195 (allc k196' allc_nil)) ck_ct_197
  exact ackc_of hL (allc k170 (allc k183 (allc k196 (allc k197 allc_nil)))) ck_ct_198
def w201 : aW := ([91, 93, 94, 95], [(56, 43), (56, 50)])
theorem st91 (hM : aInv M) (hR : aRk M) (l : Nat) : aInv (xup M 91 l 1) ∧ aRk (xup M 91 l 1) ∧ aUnw ([91], []) M (xup M 91 l 1) := by
  have hne : ∀ p i, p ≠ 91 → xup M 91 l 1 p i = M p i := fun p i h => xup_ne (Or.inl h)
  refine ⟨⟨aIvOk_fr hM.1 (fun p i => ?_), aX_fr hM.2 (fun p i h => hne p i (fun e => ?_))⟩, aRk_fr hR (fun p i h => hne p i (fun e => ?_)), fun p i h => hne p i (fun e => ?_)⟩
  · by_cases hp : p = 91
    · subst hp
      by_cases hi : i = l
      · subst hi
        refine Or.inr ⟨fun q hq => ?_, fun q hq => by rw [aNoF_of (p := 91) (by decide)] at hq; cases hq⟩
        rw [xup_self]
        have : aIvA 91 = some (0, 1) := rfl
        rw [this] at hq
        cases hq
        decide
      · exact Or.inl (xup_ne (Or.inr hi))
    · exact Or.inl (hne p i hp)
  · subst e; cases h
  · subst e; cases h
  · subst e; cases h
theorem l201 (hL : L ≤ 2560) : ∀ (n : Nat) (M : xM) (ρ : Nat → Int) (cfr : List cFr), z91 M = n → aInv M → aUnw w201 M00 M → aHS xs L [] M cB201.2.1 ρ cB201.1 cfr → aGl xs L (aPost (some (-1, 7)) w201 M00) M cfr := by
  intro n
  induction n using Nat.strongRecOn with
  | _ n ih =>
    intro M ρ cfr hn hM hU hS
    refine arunX_of (M0 := M) (w := w2_201) prs0 hL (allc (k198 hL) allc_nil) (fun r h => aPost_no h) r201_2 ?_ r201_2s hS hM (aUnw.refl _ M)
    intro c hc ρ' M' cfr' hS' hM' hU'
    have hUU : aUnw w201 M00 M' := hU.trans (aUnw_sub (by decide) hU')
    rcases List.mem_cons.mp hc with ec | hc
    · subst ec
      have hk := hS' ρ' (agr_refl _ _)
      obtain ⟨plc, skc, m, e, hl, hst, hnl⟩ := afrs_cons hk.2
      have e3 := afrs_nil hnl
      subst e3
      obtain ⟨v1, sk1, f1, g1, hst⟩ := astkC hst
      obtain ⟨v2, sk2, f2, g2, hst⟩ := astkC hst
      obtain ⟨v3, sk3, f3, g3, hst⟩ := astkC hst
      have f4 := astkN hst
      obtain ⟨x1, a1, b1⟩ := avalI g1
      obtain ⟨x2, a2, b2⟩ := avalI g2
      have a3 := aval_ref g3
      subst f4; subst a1; subst a2; subst a3; subst f3; subst f2; subst f1
      have hx1 : x1 = 1 := Int32.toInt_inj.mp (by rw [b1, aev_co]; rfl)
      subst hx1
      have hb := hk.1.2.2.1 (4, (0, 7)) (by decide)
      have hb5 := hk.1.2.2.1 (5, (0, 0)) (by decide)
      have hc4 := hk.1.2.2.2.2.1 ((91, aid 4), aid 5) (List.mem_cons_self ..)
      dsimp only at hb hb5 hc4
      rw [aev_id, aev_id] at hc4
      rw [aev_id] at b2
      have hl0 : 0 ≤ x2.toInt := by omega
      have hl7 : x2.toInt < ((8 : Nat) : Int) := by omega
      have hnc := natC b2 (by omega)
      have hz : M' 91 x2.toNatClampNeg = 0 := by
        rw [hnc]
        refine Int32.toInt_inj.mp ?_
        rw [hc4.2]
        show ρ' 5 = 0
        omega
      have hR' := hS'.rk rfl
      obtain ⟨i1, i2, i3⟩ := st91 hM' hR' x2.toNatClampNeg
      have hS2 : aHS xs L [] (xup M' 91 x2.toNatClampNeg 1) cF201.2.1 ρ' cF201.1 [(201, 157, plc, [])] := aHS_mem (K := cE201.2.1) (fr := cF201.1) (cfr := [(201, 157, plc, [])]) (fun ρ'' h => ⟨(hS' ρ'' h).1, ⟨rfl, rfl, by
        have := (hS' ρ'' h).2
        rw [e] at this
        exact this.1.2.2.1, trivial⟩, trivial⟩) i2 (fun ρ'' _ q hq => by cases hq)
      have hrun : aGl xs L (aPost (some (-1, 7)) w201 M00) (xup M' 91 x2.toNatClampNeg 1) [(201, 157, plc, [])] := by
        refine arunX_of (M0 := xup M' 91 x2.toNatClampNeg 1) (w := ([], [])) prs0 hL allc0 (fun r h => aPost_no h) r201_3x ?_ r201_3 hS2 i1 (aUnw.refl _ _)
        intro c hc ρ3 M3 cfr3 hS3 hM3 hU3
        have ec := List.mem_singleton.mp hc
        subst ec
        have eM := aUnw_nil hU3
        subst eM
        refine ih (z91 (xup M' 91 x2.toNatClampNeg 1)) ?_ _ ρ3 cfr3 rfl hM3 (hUU.trans (aUnw_sub (by decide) i3)) hS3
        rw [← hn, ← z91_eq (M := M) (M' := M') (fun i => hU' 91 i rfl)]
        exact z91_lt (by omega) hz
      rw [e]
      show PL xs L 201 (156, plc, [.int 1, .int x2, .ref 91], 102, xsh0, M') _
      have hst := ys_bast (xs := xs) (L := L) (y := 201) (pc := 156) (pl := plc) (sk := []) (M := M') (x := 1) (i := x2) (p := 91) (n := 8) rfl rfl hl0 hl7
      rw [vp_nar_bool (by decide) (by decide)] at hst
      exact PL.next hst hrun
    · have ec := List.mem_singleton.mp hc
      subst ec
      exact arunX_of (M0 := M') (w := w4_201) prs0 hL allc0 (fun r h => aPost_up (by decide) hUU h) r201_4 (fun c hc => by cases hc) r201_4s hS' hM' (aUnw.refl _ _)
theorem h201 (hL : L ≤ 2560) : aCon xs L ct_201 := by
  intro M as hM hRk hpv hpre
  obtain ⟨ρ2, hS⟩ := aentry (xs := xs) (c := ct_201) hL hRk hpv
  show aGl xs L (aPost (some (-1, 7)) w201 M) M [(201, 0, xent 201 as, [])]
  refine arunX_of (M0 := M) (w := w1_201) prs0 hL allc0 (fun r h => aPost_no h) r201_1 ?_ r201_0 hS hM (aUnw.refl _ _)
  intro c hc ρ' M' cfr' hS' hM' hU'
  have ec := List.mem_singleton.mp hc
  subst ec
  exact l201 hL _ M' ρ' cfr' rfl hM' (aUnw_sub (by decide) hU') hS'
end A201
