/-! BY HAND: good, of class and reference -/
def n105 (y pc p b : Nat) (r : Nat) : List aCutG := [([(y, pc, [R_ r, vi 1], [])], (2, [e0, (1, (-2147483648, -1))], [], [], [], [], [])), ([(y, pc, [R_ r, vi 1], [])], (3, [e0], [le_ 2 1], [((p, aco b), aid 2)], [], [], []))]
def s105 (y pc p b r r' : Nat) : aCutG := ([(y, pc, [R_ r, vi 1], [.inl (aid 1), r_ r'])], (3, [e0, (1, (0, 23))], [lt_ 1 2], [((p, aco b), aid 2)], [], [], []))
def t105 (y pc r : Nat) : aCutG := ([(y, pc, [R_ r, vi 1], [.inl (aid 4)])], (5, [e0, (3, (0, 1)), (4, (0, 1))], [le_ 4 3, le_ 3 4], [], [], [], []))
def kE (K : aKn) : aKn := (K.1, [(3, (0, 1))] ++ K.2.1, K.2.2)
def ct_105e : aCt := (105, [.inr (.inr 0), .inl aFull], [], some aFull, ([], []))
def ct_160e : aCt := (160, [.inr (.inr 56), .inl aFull], [], some aFull, ([], []))
theorem r105_0 : arunG [] [] ([], []) (n105 105 25 1 3 0 ++ [s105 105 16 1 3 0 1]) 2 (some (1, 0)) 100 [(105, 0, axent 105 (aen ct_105e.2.1 1 [(0, (0, 2560))]).1, [])] (aK0 ct_105e) = true := by decide +kernel
theorem r105_1 : arunG [] [] ([], []) [t105 105 26 0] 4 (some (1, 0)) 100 [(105, 19, [R_ 0, vi 1], [.inl (aid 3)])] (kE (kpush (s105 105 16 1 3 0 1).2)) = true := by decide +kernel
theorem r160_0 : arunG [] [] ([], []) (n105 160 8 56 0 56 ++ [s105 160 14 56 0 56 56]) 2 (some (1, 0)) 100 [(160, 0, axent 160 (aen ct_160e.2.1 1 [(0, (0, 2560))]).1, [])] (aK0 ct_160e) = true := by decide +kernel
theorem r160_1 : arunG [] [] ([], []) [t105 160 25 56] 4 (some (1, 0)) 100 [(160, 17, [R_ 56, vi 1], [.inl (aid 3)])] (kE (kpush (s105 160 14 56 0 56 56).2)) = true := by decide +kernel
section AGO
variable {xs : Nat → Int32} {L : Nat} {M : xM} {Q : xZ → Prop} {m : Int32}
theorem b2i_b (b : Bool) : 0 ≤ (b2i b).toInt ∧ (b2i b).toInt ≤ 1 := by
  cases b <;> decide
theorem n105_of {y pc p b r : Nat} {ρ : Nat → Int} {cfr : List cFr} {c : aCutG} (hc : c ∈ n105 y pc p b r) (hS : aHS xs L [] M c.2 ρ c.1 cfr) (h1 : ρ 1 = m.toInt) : ¬ (0 ≤ m.toInt ∧ m.toInt < (M p b).toInt) ∧ c.1 = [(y, pc, [R_ r, vi 1], [])] := by
  unfold n105 at hc
  rcases List.mem_cons.mp hc with e | hc
  · subst e
    have := hS.bd (t := (1, (-2147483648, -1))) (List.mem_cons_of_mem _ (List.mem_cons_self ..))
    dsimp only at this
    exact ⟨by omega, rfl⟩
  · have e := List.mem_singleton.mp hc
    subst e
    have f1 := le_of (hS.fa (f := le_ 2 1) (List.mem_cons_self ..))
    have c1 := cell_f (p := p) (b := b) (k := 2) hS (List.mem_cons_self ..)
    exact ⟨by omega, rfl⟩
set_option maxRecDepth 100000 in
theorem f105 (hL : L ≤ 2560) (hM : aInv M) (hR : aRk M) (hN : ¬ (0 ≤ m.toInt ∧ m.toInt < (M 1 3).toInt) → Q (some (.int (-1)), 102, xsh0, M)) (hG : 0 ≤ m.toInt ∧ m.toInt < (M 1 3).toInt → Q (some (.int (b2i (gdC M 24 m.toInt))), 102, xsh0, M)) : PL xs L 105 (0, xent 105 [.ref 0, .int m], [], 102, xsh0, M) Q := by
  obtain ⟨ρ2, hS⟩ := aentry (xs := xs) (c := ct_105e) (as := [.ref 0, .int m]) hL hR ⟨rfl, aFull_of m, trivial⟩
  have hl : aloc ρ2 [R_ 0, vi 1] [some (.ref 0), some (.int m)] := (hS ρ2 (agr_refl _ _)).2.1.2.2.1
  have hs1 : m.toInt = ρ2 1 := (show m.toInt = aev ρ2 (aid 1) from hl.2.1).trans aev_id
  show aGl xs L Q M [(105, 0, xent 105 [.ref 0, .int m], [])]
  refine arunG_of (ρ0 := ρ2) (g := 2) (M0 := M) prs0 hL allc0 (fun r h => aPost_no h) ?_ 100 _ _ ρ2 M _ r105_0 hS hM (aUnw.refl _ M) (by decide) (agr_refl _ _)
  intro c hc ρ' M' cfr' hS' hM' hU hag
  have eM : M' = M := aUnw_nil hU
  subst eM
  have e1 : ρ' 1 = m.toInt := (hag 1 (by decide)).trans hs1.symm
  rcases List.mem_append.mp hc with hc | hc
  · obtain ⟨hno, hfr⟩ := n105_of hc hS' e1
    have hk := (hS' ρ' (agr_refl _ _)).2
    rw [hfr] at hk
    obtain ⟨plc, skc, mm, e, hl, hst, hnl⟩ := afrs_cons hk
    have e4 := afrs_nil hnl
    have f3 := astkN hst
    subst e4; subst f3
    rw [e]
    show PL xs L 105 (25, plc, [], 102, xsh0, M') Q
    refine PL.go (k := 1) (s' := (26, plc, [.int (-1)], 102, xsh0, M')) rfl ?_
    exact PL.ret (v := some (.int (-1))) rfl (hN hno)
  · have ec := List.mem_singleton.mp hc
    subst ec
    have b1 := hS'.bd (t := (1, (0, 23))) (by decide)
    dsimp only at b1
    have f1 := lt_of (hS'.fa (f := lt_ 1 2) (List.mem_cons_self ..))
    have c1 := cell_f (p := 1) (b := 3) (k := 2) hS' (List.mem_cons_self ..)
    have hin : 0 ≤ m.toInt ∧ m.toInt < (M' 1 3).toInt := by omega
    refine call_cut (z := 22) (as := [r_ 1, .inl (aid 1)]) (rest := []) rfl rfl (by decide) hS' (fun asc R hasc hRR => ?_)
    obtain ⟨v0, vs, e, h0, hvs⟩ := astkC hasc
    obtain ⟨v1, vs1, e', h1, hvs1⟩ := astkC hvs
    have e0 := aval_ref h0
    obtain ⟨x, a1, d1⟩ := avalI h1
    have e2 := astkN hvs1
    subst e0; subst a1; subst e2; subst e'; subst e
    rw [aev_id] at d1
    have hx : x = m := Int32.toInt_inj.mp (by omega)
    subst hx
    refine f22_ hL hM' hR (by omega) ?_
    obtain ⟨cfr2, hS2, go2⟩ := hRR (b2i (gdC M' 24 x.toInt)) M' hR
    refine go2 ?_
    have hb := b2i_b (gdC M' 24 x.toInt)
    have hS3 := aHS_E (E := [(3, (0, 1))]) hS2 (fun ρ'' h t ht => by
      have et := List.mem_singleton.mp ht
      subst et
      have h3 : ρ'' 3 = (b2i (gdC M' 24 x.toInt)).toInt := (h 3 (Nat.lt_succ_self _)).trans apush_self
      show 0 ≤ ρ'' 3 ∧ ρ'' 3 ≤ 1
      omega)
    refine arunG_of (ρ0 := apush ρ' 3 (b2i (gdC M' 24 x.toInt)).toInt) (g := 4) (M0 := M') prs0 hL allc0 (fun r h => aPost_no h) ?_ 100 _ _ _ M' cfr2 r105_1 hS3 hM' (aUnw.refl _ _) (by decide) (agr_refl _ _)
    intro c hc ρ4 M4 cfr4 hS4 hM4 hU4 hag4
    have ec := List.mem_singleton.mp hc
    subst ec
    have eM := aUnw_nil hU4
    subst eM
    have u3 : ρ4 3 = (b2i (gdC M4 24 x.toInt)).toInt := (hag4 3 (by decide)).trans apush_self
    have g1 := le_of (hS4.fa (f := le_ 4 3) (List.mem_cons_self ..))
    have g2 := le_of (hS4.fa (f := le_ 3 4) (List.mem_cons_of_mem _ (List.mem_cons_self ..)))
    refine ret_i (y := 105) (pc := 26) rfl rfl hS4 (fun x' hx' => ?_)
    rw [aev_id] at hx'
    have : x' = b2i (gdC M4 24 x.toInt) := Int32.toInt_inj.mp (by omega)
    subst this
    exact hG hin
set_option maxRecDepth 100000 in
theorem f160 (hL : L ≤ 2560) (hM : aInv M) (hR : aRk M) (hN : ¬ (0 ≤ m.toInt ∧ m.toInt < (M 56 0).toInt) → Q (some (.int (-1)), 102, xsh0, M)) (hG : 0 ≤ m.toInt ∧ m.toInt < (M 56 0).toInt → Q (some (.int (b2i (gdM M 24 m.toInt))), 102, xsh0, M)) : PL xs L 160 (0, xent 160 [.ref 56, .int m], [], 102, xsh0, M) Q := by
  obtain ⟨ρ2, hS⟩ := aentry (xs := xs) (c := ct_160e) (as := [.ref 56, .int m]) hL hR ⟨rfl, aFull_of m, trivial⟩
  have hl : aloc ρ2 [R_ 56, vi 1] [some (.ref 56), some (.int m)] := (hS ρ2 (agr_refl _ _)).2.1.2.2.1
  have hs1 : m.toInt = ρ2 1 := (show m.toInt = aev ρ2 (aid 1) from hl.2.1).trans aev_id
  show aGl xs L Q M [(160, 0, xent 160 [.ref 56, .int m], [])]
  refine arunG_of (ρ0 := ρ2) (g := 2) (M0 := M) prs0 hL allc0 (fun r h => aPost_no h) ?_ 100 _ _ ρ2 M _ r160_0 hS hM (aUnw.refl _ M) (by decide) (agr_refl _ _)
  intro c hc ρ' M' cfr' hS' hM' hU hag
  have eM : M' = M := aUnw_nil hU
  subst eM
  have e1 : ρ' 1 = m.toInt := (hag 1 (by decide)).trans hs1.symm
  rcases List.mem_append.mp hc with hc | hc
  · obtain ⟨hno, hfr⟩ := n105_of hc hS' e1
    have hk := (hS' ρ' (agr_refl _ _)).2
    rw [hfr] at hk
    obtain ⟨plc, skc, mm, e, hl, hst, hnl⟩ := afrs_cons hk
    have e4 := afrs_nil hnl
    have f3 := astkN hst
    subst e4; subst f3
    rw [e]
    show PL xs L 160 (8, plc, [], 102, xsh0, M') Q
    refine PL.go (k := 2) (s' := (25, plc, [.int (-1)], 102, xsh0, M')) rfl ?_
    exact PL.ret (v := some (.int (-1))) rfl (hN hno)
  · have ec := List.mem_singleton.mp hc
    subst ec
    have b1 := hS'.bd (t := (1, (0, 23))) (by decide)
    dsimp only at b1
    have f1 := lt_of (hS'.fa (f := lt_ 1 2) (List.mem_cons_self ..))
    have c1 := cell_f (p := 56) (b := 0) (k := 2) hS' (List.mem_cons_self ..)
    have hin : 0 ≤ m.toInt ∧ m.toInt < (M' 56 0).toInt := by omega
    refine call_cut (z := 159) (as := [r_ 56, .inl (aid 1)]) (rest := []) rfl rfl (by decide) hS' (fun asc R hasc hRR => ?_)
    obtain ⟨v0, vs, e, h0, hvs⟩ := astkC hasc
    obtain ⟨v1, vs1, e', h1, hvs1⟩ := astkC hvs
    have e0 := aval_ref h0
    obtain ⟨x, a1, d1⟩ := avalI h1
    have e2 := astkN hvs1
    subst e0; subst a1; subst e2; subst e'; subst e
    rw [aev_id] at d1
    have hx : x = m := Int32.toInt_inj.mp (by omega)
    subst hx
    refine f159_ hL hM' hR hin ?_
    obtain ⟨cfr2, hS2, go2⟩ := hRR (b2i (gdM M' 24 x.toInt)) M' hR
    refine go2 ?_
    have hb := b2i_b (gdM M' 24 x.toInt)
    have hS3 := aHS_E (E := [(3, (0, 1))]) hS2 (fun ρ'' h t ht => by
      have et := List.mem_singleton.mp ht
      subst et
      have h3 : ρ'' 3 = (b2i (gdM M' 24 x.toInt)).toInt := (h 3 (Nat.lt_succ_self _)).trans apush_self
      show 0 ≤ ρ'' 3 ∧ ρ'' 3 ≤ 1
      omega)
    refine arunG_of (ρ0 := apush ρ' 3 (b2i (gdM M' 24 x.toInt)).toInt) (g := 4) (M0 := M') prs0 hL allc0 (fun r h => aPost_no h) ?_ 100 _ _ _ M' cfr2 r160_1 hS3 hM' (aUnw.refl _ _) (by decide) (agr_refl _ _)
    intro c hc ρ4 M4 cfr4 hS4 hM4 hU4 hag4
    have ec := List.mem_singleton.mp hc
    subst ec
    have eM := aUnw_nil hU4
    subst eM
    have u3 : ρ4 3 = (b2i (gdM M4 24 x.toInt)).toInt := (hag4 3 (by decide)).trans apush_self
    have g1 := le_of (hS4.fa (f := le_ 4 3) (List.mem_cons_self ..))
    have g2 := le_of (hS4.fa (f := le_ 3 4) (List.mem_cons_of_mem _ (List.mem_cons_self ..)))
    refine ret_i (y := 160) (pc := 25) rfl rfl hS4 (fun x' hx' => ?_)
    rw [aev_id] at hx'
    have : x' = b2i (gdM M4 24 x.toInt) := Int32.toInt_inj.mp (by omega)
    subst this
    exact hG hin
/-- good, one after the other -/
theorem good_two (hL : L ≤ 2560) (hM : aInv M) (hR : aRk M) (h2 : ∀ i, M 2 i = M 58 i) (h3 : ∀ i, M 3 i = M 59 i) (h4 : ∀ i, M 4 i = M 60 i) (hd : (M 1 4).toInt = (M 61 0).toInt) (hq : (M 1 5).toInt = (M 61 1).toInt) (hs : (M 1 3).toInt = (M 56 0).toInt) (m : Int32) : ∃ v, aTwo xs L 105 160 [.int m] v M M M := by
  have hg : gdC M 24 m.toInt = gdM M 24 m.toInt := gd_congr h2 h3 h4 hd hq hs 24 m.toInt
  by_cases hin : 0 ≤ m.toInt ∧ m.toInt < (M 1 3).toInt
  · refine ⟨b2i (gdC M 24 m.toInt), fun R h => f105 hL hM hR (fun hn => absurd hin hn) (fun _ => h), fun R h => f160 hL hM hR (fun hn => absurd (by omega) hn) (fun _ => by rw [← hg]; exact h), hM, hR, hM, hR⟩
  · refine ⟨-1, fun R h => f105 hL hM hR (fun _ => h) (fun hn => absurd hn hin), fun R h => f160 hL hM hR (fun _ => h) (fun hn => absurd (by omega) hin), hM, hR, hM, hR⟩
end AGO
/-! LIKES, one after the other -/
section ALT
variable {xs : Nat → Int32} {L : Nat} {M : xM}
theorem like_two (hL : L ≤ 2560) (hM : aInv M) (hR : aRk M) (h13 : ∀ i, M 13 i = M 68 i) (h14 : ∀ i, M 14 i = M 69 i) (hs : (M 5 9).toInt = (M 56 6).toInt) (s name : Int32) : ∃ v M1 M2, aTwo xs L 108 164 [.int s, .int name] v M M1 M2 ∧ (∀ i, M2 13 i = M2 68 i) ∧ (∀ i, M2 14 i = M2 69 i) ∧ aUnw ([13, 14, 68, 69], []) M M2 := by
  by_cases hin : lkIn M 5 9 s name
  · have hin2 : lkIn M 56 6 s name := ⟨hin.1, by rw [← hs]; exact hin.2.1, hin.2.2⟩
    by_cases hh : lkHas M 13 14 s name
    · have hh2 : lkHas M 68 69 s name := by
        obtain ⟨j, h1, h2⟩ := hh
        exact ⟨j, by rw [← h13]; exact h1, by rw [← h14]; exact h2⟩
      exact ⟨-2, M, M, ⟨fun R h => f108 hL hM hR ⟨fun hn => absurd hin hn, fun _ _ => h, fun _ hn => absurd hh hn⟩, fun R h => f164 hL hM hR ⟨fun hn => absurd hin2 hn, fun _ _ => h, fun _ hn => absurd hh2 hn⟩, hM, hR, hM, hR⟩, h13, h14, aUnw.refl _ _⟩
    · have hs30 := hM.1.2 5 9 (0, 30) rfl
      dsimp only at hs30
      have hslt : s.toInt.toNat < 30 := by
        have := hin.1
        have := hin.2.1
        omega
      obtain ⟨h7, hM1, hR1, hU1⟩ := lk_ok (cp := 13) (vp := 14) (Or.inl ⟨rfl, rfl⟩) hM hR (s := s.toInt.toNat) (name := name) hslt hin.2.2 (fun j hj e => hh ⟨j, hj, e⟩)
      have o68 : ∀ i, lkM M 13 14 s.toInt.toNat name 68 i = M 68 i := fun i => lkM_o (by decide) (by decide)
      have o69 : ∀ i, lkM M 13 14 s.toInt.toNat name 69 i = M 69 i := fun i => lkM_o (by decide) (by decide)
      have hh2 : ¬ lkHas (lkM M 13 14 s.toInt.toNat name) 68 69 s name := fun ⟨j, h1, h2⟩ => by
        rw [o68, ← h13] at h1
        rw [o69, ← h14] at h2
        exact hh ⟨j, h1, h2⟩
      have hin3 : lkIn (lkM M 13 14 s.toInt.toNat name) 56 6 s name := ⟨hin2.1, by rw [lkM_o (by decide) (by decide)]; exact hin2.2.1, hin2.2.2⟩
      obtain ⟨h7', hM2, hR2, hU2⟩ := lk_ok (cp := 68) (vp := 69) (Or.inr ⟨rfl, rfl⟩) hM1 hR1 (s := s.toInt.toNat) (name := name) hslt hin.2.2 (fun j hj e => hh2 ⟨j, hj, e⟩)
      refine ⟨M 13 s.toInt.toNat + 1, _, _, ⟨fun R h => f108 hL hM hR ⟨fun hn => absurd hin hn, fun _ hn => absurd hn hh, fun _ _ => h⟩, fun R h => f164 hL hM1 hR1 ⟨fun hn => absurd hin3 hn, fun _ hn => absurd hn hh2, fun _ _ => by rw [o68, ← h13]; exact h⟩, hM1, hR1, hM2, hR2⟩, fun i => ?_, fun i => ?_, ?_⟩
      · rw [lkM_o (p := 13) (by decide) (by decide)]
        by_cases hi : i = s.toInt.toNat
        · subst hi
          rw [lkM_c (by decide), lkM_c (by decide), o68, h13]
        · rw [lkM_co (by decide) hi, lkM_co (by decide) hi, o68, h13]
      · rw [lkM_o (p := 14) (by decide) (by decide)]
        have ec : (lkM M 13 14 s.toInt.toNat name 68 s.toInt.toNat) = M 13 s.toInt.toNat := by rw [o68, h13]
        by_cases hi : i = 8 * s.toInt.toNat + (M 13 s.toInt.toNat).toInt.toNat
        · subst hi
          rw [lkM_v (by decide)]
          have := lkM_v (M := lkM M 13 14 s.toInt.toNat name) (cp := 68) (vp := 69) (s := s.toInt.toNat) (name := name) (by decide)
          rw [ec] at this
          exact this.symm
        · rw [lkM_vo (by decide) hi]
          rw [lkM_vo (cp := 68) (vp := 69) (by decide) (by rw [ec]; exact hi), o69, h14]
      · exact (aUnw_sub (w' := ([13, 14], [])) (by decide) hU1).trans (aUnw_sub (w' := ([68, 69], [])) (by decide) hU2)
  · have hin2 : ¬ lkIn M 56 6 s name := fun h => hin ⟨h.1, by rw [hs]; exact h.2.1, h.2.2⟩
    exact ⟨-1, M, M, ⟨fun R h => f108 hL hM hR ⟨fun _ => h, fun hn => absurd hn hin, fun hn => absurd hn hin⟩, fun R h => f164 hL hM hR ⟨fun _ => h, fun hn => absurd hn hin2, fun hn => absurd hn hin2⟩, hM, hR, hM, hR⟩, h13, h14, aUnw.refl _ _⟩
end ALT
