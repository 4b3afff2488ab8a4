/-! RULE(), of the reference -/
def st175 (k : Int) : List aV := [.inl (aco 9), .inl (aco 5), r_ 56, .inl (tk_ k), r_ 76]
def rW (pcR : Nat) (k : Int) (F : List aL) : Bool := arunG [] [] wRm [(fr178 9 k none none (st175 k), kTm k)] 2 (some (1, 0)) 100 (fr179 pcR []) (k1b (khav wM (kTm k)) (-1, -1) (0, 255) F)
def okT2 (pcR : Nat) (k : Int) : Bool := arunG [] [] ([], []) [(fr179 189 [], kNm)] 2 (some (1, 0)) 100 (fr179 pcR []) (k1b (khav wM (kTm k)) (0, 121) (0, 255) []) && (rW pcR k [le_ 2 3] && (rW pcR k [lt_ 3 2] && (arunG [] [] wRm [(fr178 13 k none none [], kTm k)] 2 (some (1, 0)) 100 (fr178 12 k none none [.inl (aid 2), .inl (tk_ k), r_ 76]) (kpuh wM (5, 8) (kTm k)) && arunG [] [] wRm [(fr178 97 k none none [.inl (aco 0), r_ 56], kTm k)] 2 (some (1, 0)) 10 (fr178 97 k none none [.inl (aco 0), r_ 56]) (kTm k) = true)))
theorem okT2_0 : okT2 123 0 = true := by decide +kernel
theorem okT2_1 : okT2 144 1 = true := by decide +kernel
def lg_ (t : Int) : aV := .inr (.inl (some (aco t)))
def frC0 : List aFr := fr179 120 [lg_ 543778336, .inl (aco 4), r_ 56]
def frC1 : List aFr := fr179 141 [lg_ 139073578016, .inl (aco 5), r_ 56]
def okH (k : Int) : Bool := arunG [] [] ([], []) [(fr179 189 [], kNm)] 2 (some (1, 0)) 100 (fr179 88 []) (k1b (kTm k) (-1, -1) (0, 255) [le_ 2 3]) && arunG [] [] ([], []) [(fr179 189 [], kNm)] 2 (some (1, 0)) 100 (fr179 88 []) (k1b (kTm k) (0, 121) (0, 255) [])
def okY (k : Int) (frC : List aFr) : Bool := arunG [] [] ([], []) [(frC, kTm k)] 2 (some (1, 0)) 100 (fr179 88 []) (k1b (kTm k) (-1, -1) (0, 255) [lt_ 3 2])
theorem okH_0 : okH 0 = true := by decide +kernel
theorem okH_1 : okH 1 = true := by decide +kernel
theorem okH_2 : okH 2 = true := by decide +kernel
theorem okY_0 : okY 0 frC0 = true := by decide +kernel
theorem okY_1 : okY 1 frC1 = true := by decide +kernel
def c3_ : aCutG := (fr179 189 [], (7, [e0, (1, (0, 9))], [], [((56, aco 27), aid 3), ((56, aco 17), aid 1)], [], [], []))
theorem r3_0 : arunG [] [] wM [c3_] 7 (some (1, 0)) 100 (fr179 88 []) (k1b (kTm 2) (-1, -1) (0, 255) [lt_ 3 2]) = true := by decide +kernel
theorem r3_1 : arunG [] [] ([], []) [(fr179 189 [], kNm)] 2 (some (1, 0)) 100 c3_.1 c3_.2 = true := by decide +kernel
section AXT
variable {xs : Nat → Int32} {L : Nat} {ρ : Nat → Int} {M M0 : xM} {Q : xZ → Prop}
theorem tstM (hL : L ≤ 2560) {pcR : Nat} {k : Int} {s : tSt} {cfr : List cFr} (ok : okT2 pcR k = true) (oS : okS k = true) (oN : okN k = true) (hs : mSt M0 M s) (hS : aHS xs L [] M (khav wM (kTm k)) ρ (fr179 pcR []) cfr) (kf : s.2 = true → ∀ (ρ' : Nat → Int) (cfr' : List cFr), aHS xs L [] M kNm ρ' (fr179 189 []) cfr' → aGl xs L Q M cfr') (kk : ∀ (M' : xM) (ρ' : Nat → Int) (cfr' : List cFr), mSt M0 M' (tst (mB M0) (mT M0) s) → aHS xs L [] M' (kTm (k + 1)) ρ' (fr179 88 []) cfr' → aGl xs L Q M' cfr') : aGl xs L Q M cfr := by
  unfold okT2 at ok
  rw [Bool.and_eq_true, Bool.and_eq_true, Bool.and_eq_true, Bool.and_eq_true] at ok
  obtain ⟨o1, o2, o3, o4, o5⟩ := ok
  have o5 := of_decide_eq_true o5
  have go : ∀ {F : List aL} {ρ2 : Nat → Int}, rW pcR k F = true → aHS xs L [] M (k1b (khav wM (kTm k)) (-1, -1) (0, 255) F) ρ2 (fr179 pcR []) cfr → aGl xs L Q M cfr := by
    intro F ρ2 hr hS2
    unfold rW at hr
    refine mI (z := 175) (as := [r_ 56, .inl (aco 5), .inl (aco 9)]) (rest := [.inl (tk_ k), r_ 76]) (5, 8) hL hr rfl rfl rfl rfl rfl rfl (o175 (h175_5 hL)) (fun v h => ?_) hs hS2 (fun M1 ρ1 cfr1 hs1 _ hS1 => ?_)
    · obtain ⟨d, e, h1, h2⟩ := h
      exact ⟨d, e, h1, by show d.toInt ≤ (8 : Int); omega⟩
    · refine seg prs0 allc0 hL o4 rfl hS1 hs1.1 (fun ρ2 M2 cfr2 hS2 hM2 hU2 _ => ?_)
      have hs2 := mSt_R hs1 hU2 hM2 (hS2.rk rfl)
      refine sgnM hL oS hs2 hS2 (fun M3 ρ3 cfr3 hs3 hS3 => ?_)
      exact numM hL oN o5 hs3 hS3 kk
  refine three (K := khav wM (kTm k)) hs rfl rfl hS (fun ρ2 hS2 hag e2 h2 => ?_) (fun ρ2 hS2 hag e2 h2 h3 hn _ => ?_) (fun hf hT n0 n1 hY => ?_)
  · refine seg prs0 allc0 hL o1 rfl hS2 hs.1 (fun ρ3 M3 cfr3 hS3 hM3 hU3 _ => ?_)
    have eM := aUnw_nil hU3
    subst eM
    exact kf (by rw [e2]) ρ3 cfr3 hS3
  · exact go o2 hS2
  · obtain ⟨ρ2, hS2, -⟩ := hY (0, 255) n0 n1
    exact go o3 hS2
/-- whether it goes on -/
theorem headM (hL : L ≤ 2560) {k : Int} {s : tSt} {cfr : List cFr} (ok : okH k = true) (hs : mSt M0 M s) (hS : aHS xs L [] M (kTm k) ρ (fr179 88 []) cfr) (yes : s.2 = false ∧ s.1 < mT M0 → ∀ (ρ' : Nat → Int), s = (ρ' 3, false) → 0 ≤ ρ' 3 → aHS xs L [] M (k1b (kTm k) (-1, -1) (0, 255) [lt_ 3 2]) ρ' (fr179 88 []) cfr → aGl xs L Q M cfr) (no : ¬ (s.2 = false ∧ s.1 < mT M0) → ∀ (ρ' : Nat → Int) (cfr' : List cFr), aHS xs L [] M kNm ρ' (fr179 189 []) cfr' → aGl xs L Q M cfr') : aGl xs L Q M cfr := by
  unfold okH at ok
  rw [Bool.and_eq_true] at ok
  refine three (K := kTm k) hs rfl rfl hS (fun ρ2 hS2 hag e2 h2 => ?_) (fun ρ2 hS2 hag e2 h2 h3 hn hT => ?_) (fun hf hT n0 n1 hY => ?_)
  · refine seg prs0 allc0 hL ok.2 rfl hS2 hs.1 (fun ρ3 M3 cfr3 hS3 hM3 hU3 _ => ?_)
    have eM := aUnw_nil hU3
    subst eM
    exact no (fun h => by rw [e2] at h; cases h.1) ρ3 cfr3 hS3
  · refine seg prs0 allc0 hL ok.1 rfl hS2 hs.1 (fun ρ3 M3 cfr3 hS3 hM3 hU3 _ => ?_)
    have eM := aUnw_nil hU3
    subst eM
    exact no (fun h => hT h.2) ρ3 cfr3 hS3
  · obtain ⟨ρ2, hS2, hag, e2, h2, h3⟩ := hY (0, 255) n0 n1
    exact yes ⟨hf, hT⟩ ρ2 e2 h3 hS2
end AXT
-- ---- rule()
def kN2m : aKn := (2, [e0, (1, (0, 9))], [], [((56, aco 26), aco 0), ((56, aco 27), aco (-1)), ((56, aco 17), aid 1), ((75, aid 1), aco 0)], [], [], [])
def kI1m : aKn := kcell k1_ 56 (aco 17) (0, 10)
def xA180 : aCutG := ([(180, 11, [R_ 56], [.inl (aco (-4))])], (2, [e0, (1, (10, 10))], [], [], [], [], []))
def xB180 : aCutG := ([(180, 12, [R_ 56], [])], kNm)
def f179_ (pc : Nat) (t m : Int) : List aFr := fr179 pc [lg_ t, .inl (aco m), r_ 56]
def f179d (pc : Nat) (l : Int) (p : Nat) : List aFr := fr179 pc [.inl (aco l), r_ 56, .inl (aid 1), r_ p]
def f25 : List aFr := fr179 25 [.inl (aco 5), .inl (aco 0), r_ 56, .inl (aid 1), r_ 71]
def w3_ : aW := ([75], [(56, 26), (56, 27)])
theorem r180_0 : arunG [] [] ([], []) [xA180, xB180] 2 (some (1, 0)) 100 [(180, 0, [R_ 56], [])] kI1m = true := by decide +kernel
theorem r180_1 : arunG [] [] w3_ [(f25, kN2m)] 2 (some (1, 0)) 100 [(180, 12, [R_ 56], [])] kNm = true := by decide +kernel
theorem r180_2 : arunG [] [] wRm [(f25, kTm 0)] 2 (some (1, 0)) 100 f25 kN2m = true := by decide +kernel
theorem r180_3 : arunG [] [] wRm [(f179_ 35 35675632986912 6, kTm 0)] 2 (some (1, 0)) 100 (fr179 28 [.inl (aid 2), .inl (aid 1), r_ 71]) (kpuh wM (0, 4) (kTm 0)) = true := by decide +kernel
theorem r180_4 : arunG [] [] wRm [(f179d 45 0 72, kTm 0)] 2 (some (1, 0)) 100 (fr179 38 []) (khav wM (kTm 0)) = true := by decide +kernel
theorem r180_5 : arunG [] [] wRm [(f179_ 55 35658519634976 6, kTm 0)] 2 (some (1, 0)) 100 (fr179 48 [.inl (aid 2), .inl (aid 1), r_ 72]) (kpuh wM (0, 9) (kTm 0)) = true := by decide +kernel
theorem r180_6 : arunG [] [] wRm [(f179d 65 0 73, kTm 0)] 2 (some (1, 0)) 100 (fr179 58 []) (khav wM (kTm 0)) = true := by decide +kernel
theorem r180_7 : arunG [] [] wRm [(f179_ 74 544171552 4, kTm 0)] 2 (some (1, 0)) 100 (fr179 68 [.inl (aid 2), .inl (aid 1), r_ 73]) (kpuh wM (0, 9) (kTm 0)) = true := by decide +kernel
theorem r180_8 : arunG [] [] wRm [(f179d 84 1 74, kTm 0)] 2 (some (1, 0)) 100 (fr179 77 []) (khav wM (kTm 0)) = true := by decide +kernel
theorem r180_9 : arunG [] [] wRm [(fr179 88 [], kTm 0)] 2 (some (1, 0)) 100 (fr179 87 [.inl (aid 2), .inl (aid 1), r_ 74]) (kpuh wM (0, 9) (kTm 0)) = true := by decide +kernel
theorem r180_a : arunG [] [] wRm [(frC0, kTm 0)] 2 (some (1, 0)) 10 frC0 (kTm 0) = true := by decide +kernel
theorem r180_b : arunG [] [] wRm [(frC1, kTm 1)] 2 (some (1, 0)) 10 frC1 (kTm 1) = true := by decide +kernel
def wEm : aW := ([], [(56, 16), (56, 17)])
def wC2m : aW := ([71, 72, 73, 74, 75, 76, 77, 78], [(56, 16), (56, 17), (56, 26), (56, 27)])
def yE180 (pc : Nat) (l m : aL) : aCutG := ([(180, pc, [R_ 56], [.inl l])], (7, [e0], [], [((56, aco 16), aco 0), ((56, aco 17), m)], [], [], []))
theorem r180_y (F : List aL) (hF : F = [le_ 2 3] ∨ F = [lt_ 3 2]) : arunG [] [] wEm [yE180 56 (aid 1) (1, [(1, 1)])] 7 (some (1, 0)) 200 (fr179 189 []) (k1b kNm (-1, -1) (0, 255) F) = true := by
  rcases hF with h | h <;> subst h <;> decide +kernel
theorem r180_f : arunG [] [] wEm [yE180 39 (-10, [(4, -1)]) (aid 1)] 7 (some (1, 0)) 200 (fr179 189 []) (k1b kNm (0, 121) (0, 255) []) = true := by decide +kernel
/-- how the reference's reading ends -/
def foM (g : tSt) (T : Int) (s : tSt) : Prop := (s.2 = false → g.2 = false ∧ g.1 = T) ∧ (s.2 = true → ¬ (g.2 = false ∧ g.1 = T) ∧ s.1 = g.1)
theorem foM_no {g : tSt} {T : Int} (hle : g.1 ≤ T) (hno : ¬ (g.2 = false ∧ g.1 < T)) : foM g T g := by
  refine ⟨fun h => ⟨h, ?_⟩, fun h => ⟨fun h' => ?_, rfl⟩⟩
  · by_cases c : g.1 < T
    · exact absurd ⟨h, c⟩ hno
    · omega
  · rw [h] at h'
    cases h'.1
section AXZ
variable {xs : Nat → Int32} {L : Nat} {Q : xZ → Prop} {M0 : xM}
theorem f180_ (hL : L ≤ 2560) (hM : aInv M0) (hR : aRk M0) (hk : lOk M0) (hfull : (M0 56 17).toInt = 10 → Q (some (.int (-4)), 102, xsh0, M0)) (hread : (M0 56 17).toInt ≤ 9 → ∀ (x : Int32) (M' : xM), aInv M' → aRk M' → lOk M' → aUnw wC2m M0 M' → (M' 56 16).toInt = 0 → rulC (gram (mB M0) (mT M0)) (mT M0) (M0 56 17).toInt x.toInt (M' 56 17).toInt → Q (some (.int x), 102, xsh0, M')) : PL xs L 180 (0, xent 180 [.ref 56], [], 102, xsh0, M0) Q := by
  obtain ⟨ρ1, hS0⟩ := aentry (xs := xs) (c := (180, [.inr (.inr 56)], [], none, wM)) (as := [.ref 56]) hL hR ⟨rfl, trivial⟩
  have hS0 : aHS xs L [] M0 k1_ ρ1 [(180, 0, [R_ 56], [])] [(180, 0, xent 180 [.ref 56], [])] := hS0
  have h8 := hM.1.2 56 17 (0, 10) rfl
  have s1 := aHS_cell (p := 56) (l := aco 17) (q := (0, 10)) hS0 rfl (by rw [aev_co]; decide) (by rw [aev_co]; exact h8)
  rw [aev_co] at s1
  show aGl xs L Q M0 [(180, 0, xent 180 [.ref 56], [])]
  refine arunG_of (ρ0 := apush ρ1 1 (M0 56 17).toInt) (g := 2) (M0 := M0) prs0 hL allc0 (fun r h => aPost_no h) ?_ 100 _ _ _ M0 _ r180_0 s1 hM (aUnw.refl _ M0) (by decide) (agr_refl _ _)
  intro c hc ρ2 M1 cfr2 hS2 hM2 hU2 hag2
  have eM := aUnw_nil hU2
  subst eM
  have e1 : ρ2 1 = (M1 56 17).toInt := (hag2 1 (by decide)).trans apush_self
  simp only [List.mem_cons, List.not_mem_nil, or_false] at hc
  rcases hc with e | e
  · subst e
    have b1 := hS2.bd (t := (1, (10, 10))) (by decide)
    dsimp only at b1
    refine ret_i (y := 180) (pc := 11) rfl rfl hS2 (fun x hx => ?_)
    rw [aev_co] at hx
    have ex : x = -4 := Int32.toInt_inj.mp (by rw [hx]; rfl)
    subst ex
    exact hfull (by omega)
  · subst e
    have b1 := hS2.bd (t := (1, (0, 9))) (by decide)
    dsimp only at b1
    have hread := hread (by omega)
    refine seg prs0 allc0 hL r180_1 rfl hS2 hM (fun ρ3 M3 cfr3 hS3 hM3 hU3 hag3 => ?_)
    have c2 := (hS3.ce (q := ((56, aco 26), aco 0)) (by decide)).2
    dsimp only at c2
    rw [aev_co, aev_co] at c2
    have c2 : (M3 56 26).toInt = 0 := c2
    have c3 := (hS3.ce (q := ((56, aco 27), aco (-1))) (by decide)).2
    dsimp only at c3
    rw [aev_co, aev_co] at c3
    have c3 : (M3 56 27).toInt = -1 := c3
    have hU3' : aUnw wCm M1 M3 := aUnw_sub (by decide) hU3
    have hs3 : mSt M1 M3 (0, false) := ⟨hM3, hS3.rk rfl, lOk_kept wCm_l hk hU3', hU3', mS_n (by omega) c2⟩
    refine mI (0, 4) hL r180_2 rfl rfl rfl rfl rfl rfl (o175 (h175_0 hL)) (fun v h => h) hs3 hS3 (fun M4 ρ4 cfr4 hs4 _ hS4 => ?_)
    refine mV hL r180_3 rfl rfl rfl rfl rfl (o174 hL t174_1) hs4 hS4 (fun M5 ρ5 cfr5 hs5 _ hS5 => ?_)
    refine mI (0, 9) hL r180_4 rfl rfl rfl rfl rfl rfl (o177 hL (Or.inl rfl) ok177_0) (fun v h => h) hs5 hS5 (fun M6 ρ6 cfr6 hs6 _ hS6 => ?_)
    refine mV hL r180_5 rfl rfl rfl rfl rfl (o174 hL t174_2) hs6 hS6 (fun M7 ρ7 cfr7 hs7 _ hS7 => ?_)
    refine mI (0, 9) hL r180_6 rfl rfl rfl rfl rfl rfl (o177 hL (Or.inl rfl) ok177_0) (fun v h => h) hs7 hS7 (fun M8 ρ8 cfr8 hs8 _ hS8 => ?_)
    refine mV hL r180_7 rfl rfl rfl rfl rfl (o174 hL t174_3) hs8 hS8 (fun M9 ρ9 cfr9 hs9 _ hS9 => ?_)
    refine mI (0, 9) hL r180_8 rfl rfl rfl rfl rfl rfl (o177 hL (Or.inr rfl) ok177_1) (fun v h => h) hs9 hS9 (fun M10 ρ10 cfr10 hs10 _ hS10 => ?_)
    refine seg prs0 allc0 hL r180_9 rfl hS10 hs10.1 (fun ρ11 M11 cfr11 hS11 hM11 hU11 _ => ?_)
    have hs11 : mSt M1 M11 (frnt (mB M1) (mT M1)) := mSt_R hs10 hU11 hM11 (hS11.rk rfl)
    have h120 := hM.1.2 56 16 (0, 120) rfl
    have hin := gram_in (b := mB M1) (T := mT M1) h120.1
    have fin : ∀ (s : tSt), foM (gram (mB M1) (mT M1)) (mT M1) s → ∀ (M2 : xM) (ρ : Nat → Int) (cfr : List cFr), mSt M1 M2 s → aHS xs L [] M2 kNm ρ (fr179 189 []) cfr → aGl xs L Q M2 cfr := by
      intro s hfo M2 ρ cfr hs hS
      have h17 : M2 56 17 = M1 56 17 := hs.2.2.2.1 56 17 rfl
      have done : ∀ (pc : Nat) (l m : aL) (ρ2 : Nat → Int) {len a b w : Nat}, xI 180 pc = some (.ireturn, len, a, b, w) → (∀ (x : Int32) (M3 : xM), x.toInt = aev ρ2 l → (M3 56 17).toInt = aev ρ2 m → rulC (gram (mB M1) (mT M1)) (mT M1) (M1 56 17).toInt x.toInt (M3 56 17).toInt) → ∀ (ρ3 : Nat → Int) (M3 : xM) (cfr3 : List cFr), awl 7 l = true → awl 7 m = true → aHS xs L [] M3 (yE180 pc l m).2 ρ3 (yE180 pc l m).1 cfr3 → aInv M3 → aUnw wEm M2 M3 → agr 7 ρ2 ρ3 → aGl xs L Q M3 cfr3 := by
        intro pc l m ρ2 len a b w hI hr ρ3 M3 cfr3 wl wm hS3 hM3 hU3 hag3
        have c1 := (hS3.ce (q := ((56, aco 16), aco 0)) (List.mem_cons_self ..)).2
        dsimp only at c1
        rw [aev_co, aev_co] at c1
        have c8 := (hS3.ce (q := ((56, aco 17), m)) (List.mem_cons_of_mem _ (List.mem_cons_self ..))).2
        dsimp only at c8
        rw [aev_co] at c8
        refine ret_i (y := 180) (pc := pc) hI rfl hS3 (fun x hx => hread x M3 hM3 (hS3.rk rfl) (fun t ht => ?_) ?_ c1 (hr x M3 ?_ ?_))
        · have e := List.all_eq_true.mp cons_p t ht
          rw [Bool.and_eq_true] at e
          have hwin : aWin wEm t.1 t.2.1 = false := by
            rcases p79 (Nat.le_of_ble_eq_true e.1) (Nat.le_of_ble_eq_true e.2) with q | q | q <;> rw [q] <;> rfl
          rw [hU3 t.1 t.2.1 hwin]
          exact hs.2.2.1 t ht
        · exact (aUnw_sub (by decide) hs.2.2.2.1).trans (aUnw_sub (by decide) hU3)
        · rw [hx]
          exact awl_of hag3 wl
        · rw [← awl_of hag3 wm]
          exact c8
      have good : ∀ (F : List aL), F = [le_ 2 3] ∨ F = [lt_ 3 2] → s.2 = false → ∀ (ρ2 : Nat → Int), aHS xs L [] M2 (k1b kNm (-1, -1) (0, 255) F) ρ2 (fr179 189 []) cfr → aGl xs L Q M2 cfr := by
        intro F hF h2 ρ2 hS2
        have h18 := cell_f (p := 56) (b := 17) (k := 1) hS2 (by show _ ∈ _ :: _ :: _ :: _ :: [((56, aco 17), aid 1)]; exact List.mem_cons_of_mem _ (List.mem_cons_of_mem _ (List.mem_cons_of_mem _ (List.mem_cons_of_mem _ (List.mem_cons_self ..)))))
        refine seg prs0 allc0 hL (r180_y F hF) rfl hS2 hs.1 (fun ρ3 M3 cfr3 hS3 hM3 hU3 hag3 => done 56 (aid 1) (1, [(1, 1)]) ρ2 rfl (fun x M3 hx h8 => ?_) ρ3 M3 cfr3 rfl rfl hS3 hM3 hU3 hag3)
        rw [aev_id] at hx
        rw [aev_s] at h8
        rw [h17] at h18
        exact ⟨fun _ => ⟨by omega, by omega⟩, fun h => absurd (hfo.1 h2) h⟩
      refine three (K := kNm) hs rfl rfl hS (fun ρ2 hS2 hag e2 h2 => ?_) (fun ρ2 hS2 hag e2 h2 h3 hn _ => ?_) (fun hf hT n0 n1 hY => ?_)
      · have h18 := cell_f (p := 56) (b := 17) (k := 1) hS2 (by show _ ∈ _ :: _ :: _ :: _ :: [((56, aco 17), aid 1)]; exact List.mem_cons_of_mem _ (List.mem_cons_of_mem _ (List.mem_cons_of_mem _ (List.mem_cons_of_mem _ (List.mem_cons_self ..)))))
        have e2 : s = (ρ2 4, true) := e2
        refine seg prs0 allc0 hL r180_f rfl hS2 hs.1 (fun ρ3 M3 cfr3 hS3 hM3 hU3 hag3 => done 39 (-10, [(4, -1)]) (aid 1) ρ2 rfl (fun x M3 hx h8 => ?_) ρ3 M3 cfr3 rfl rfl hS3 hM3 hU3 hag3)
        have hx : x.toInt = -10 + (-1 * ρ2 4 + 0) := hx
        rw [aev_id] at h8
        rw [h17] at h18
        have ho := hfo.2 (by rw [e2])
        have ho2 : ρ2 4 = (gram (mB M1) (mT M1)).1 := by rw [← ho.2, e2]
        exact ⟨fun h => absurd h ho.1, fun _ => ⟨by omega, by omega⟩⟩
      · exact good _ (Or.inl rfl) (by rw [e2]) ρ2 hS2
      · obtain ⟨ρ2, hS2, -⟩ := hY (0, 255) n0 n1
        exact good _ (Or.inr rfl) hf ρ2 hS2
    have foNo : ∀ {s : tSt}, s = gram (mB M1) (mT M1) → ¬ (s.2 = false ∧ s.1 < mT M1) → foM (gram (mB M1) (mT M1)) (mT M1) s := by
      intro s e hno
      rw [e] at hno ⊢
      exact foM_no hin.2 hno
    have foT : ∀ {s : tSt}, s = gram (mB M1) (mT M1) → s.2 = true → foM (gram (mB M1) (mT M1)) (mT M1) s := fun e h => foNo e (fun h' => by rw [h] at h'; cases h'.1)
    refine headM hL okH_0 hs11 hS11 (fun hy ρ12 _ _ hS12 => ?_) (fun hn ρ12 cfr12 hS12 => ?_)
    · have eo := opt_y (b := mB M1) (T := mT M1) (cs := tIf) hy
      refine seg prs0 allc0 hL okY_0 rfl hS12 hs11.1 (fun ρ13 M13 cfr13 hS13 hM13 hU13 _ => ?_)
      have eM := aUnw_nil hU13
      subst eM
      refine mV hL r180_a rfl rfl rfl rfl rfl (o174 hL t174_4) hs11 hS13 (fun M14 ρ14 cfr14 hs14 _ hS14 => ?_)
      refine tstM hL okT2_0 okS_0 okN_0 hs14 hS14 (fun hf ρ15 cfr15 hS15 => ?_) (fun M15 ρ15 cfr15 hs15 hS15 => ?_)
      · refine fin _ (foT ?_ hf) M14 ρ15 cfr15 hs14 hS15
        have e1 : tst (mB M1) (mT M1) (txt (mB M1) (mT M1) tIf (frnt (mB M1) (mT M1))) = txt (mB M1) (mT M1) tIf (frnt (mB M1) (mT M1)) := by
          have : txt (mB M1) (mT M1) tIf (frnt (mB M1) (mT M1)) = ((txt (mB M1) (mT M1) tIf (frnt (mB M1) (mT M1))).1, true) := by rw [← hf]
          rw [this, tst_f]
        have e2 : opt (mB M1) (mT M1) tIf (frnt (mB M1) (mT M1)) = txt (mB M1) (mT M1) tIf (frnt (mB M1) (mT M1)) := eo.trans e1
        unfold gram
        rw [e2]
        exact (opt_n (fun h' => by have h1 := h'.1; rw [hf] at h1; cases h1)).symm
      · have hs15 : mSt M1 M15 (opt (mB M1) (mT M1) tIf (frnt (mB M1) (mT M1))) := by rw [eo]; exact hs15
        refine headM hL okH_1 hs15 hS15 (fun hy2 ρ16 _ _ hS16 => ?_) (fun hn2 ρ16 cfr16 hS16 => ?_)
        · have eg : gram (mB M1) (mT M1) = tst (mB M1) (mT M1) (txt (mB M1) (mT M1) tAnd (opt (mB M1) (mT M1) tIf (frnt (mB M1) (mT M1)))) := opt_y hy2
          refine seg prs0 allc0 hL okY_1 rfl hS16 hs15.1 (fun ρ17 M17 cfr17 hS17 hM17 hU17 _ => ?_)
          have eM := aUnw_nil hU17
          subst eM
          refine mV hL r180_b rfl rfl rfl rfl rfl (o174 hL t174_5) hs15 hS17 (fun M18 ρ18 cfr18 hs18 _ hS18 => ?_)
          refine tstM hL okT2_1 okS_1 okN_1 hs18 hS18 (fun hf ρ19 cfr19 hS19 => ?_) (fun M19 ρ19 cfr19 hs19 hS19 => ?_)
          · refine fin _ (foT ?_ hf) M18 ρ19 cfr19 hs18 hS19
            have e1 : txt (mB M1) (mT M1) tAnd (opt (mB M1) (mT M1) tIf (frnt (mB M1) (mT M1))) = ((txt (mB M1) (mT M1) tAnd (opt (mB M1) (mT M1) tIf (frnt (mB M1) (mT M1)))).1, true) := by rw [← hf]
            rw [eg, e1, tst_f]
          · have hs19 : mSt M1 M19 (gram (mB M1) (mT M1)) := by rw [eg]; exact hs19
            refine headM hL okH_2 hs19 hS19 (fun hy3 ρ20 e20 h20 hS20 => ?_) (fun hn3 ρ20 cfr20 hS20 => ?_)
            · refine seg prs0 allc0 hL r3_0 rfl hS20 hs19.1 (fun ρ21 M21 cfr21 hS21 hM21 hU21 hag21 => ?_)
              have c27 := (hS21.ce (q := ((56, aco 27), aid 3)) (List.mem_cons_self ..)).2
              dsimp only at c27
              rw [aev_co, aev_id, hag21 3 (by decide)] at c27
              have c27 : (M21 56 27).toInt = ρ20 3 := c27
              have hs21 : mSt M1 M21 (ρ20 3, true) := mSt_C (aUnw_sub (by decide)) hs19 hU21 hM21 (hS21.rk rfl) (mS_f c27 h20)
              refine seg prs0 allc0 hL r3_1 rfl hS21 hM21 (fun ρ22 M22 cfr22 hS22 hM22 hU22 _ => ?_)
              have eM := aUnw_nil hU22
              subst eM
              refine fin (ρ20 3, true) ⟨fun h => (by cases h), fun _ => ⟨fun h => ?_, by rw [e20]⟩⟩ M22 ρ22 cfr22 hs21 hS22
              have := hy3.2
              omega
            · exact fin _ (foNo rfl hn3) M19 ρ20 cfr20 hs19 hS20
        · have eg : opt (mB M1) (mT M1) tIf (frnt (mB M1) (mT M1)) = gram (mB M1) (mT M1) := (opt_n hn2).symm
          exact fin _ (foNo eg hn2) M15 ρ16 cfr16 hs15 hS16
    · have eo : frnt (mB M1) (mT M1) = opt (mB M1) (mT M1) tIf (frnt (mB M1) (mT M1)) := (opt_n hn).symm
      have eg : frnt (mB M1) (mT M1) = gram (mB M1) (mT M1) := by
        unfold gram
        rw [← eo]
        exact (opt_n hn).symm
      exact fin _ (foNo eg hn) M11 ρ12 cfr12 hs11 hS12
end AXZ
