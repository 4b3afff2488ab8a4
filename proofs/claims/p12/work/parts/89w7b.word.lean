/-! WORDS, of the reference: what they read -/
section AWW
variable {xs : Nat → Int32} {L : Nat} {ρ : Nat → Int} {M : xM} {Q : xZ → Prop}
theorem kBs_n {a : Nat} : ∀ {qs : List (Int × Int)} {K : aKn} {i : Int}, K.1 ≤ (kBs K a i qs).1
  | [], _, _ => Nat.le_refl _
  | q :: qs, K, i => Nat.le_trans (show K.1 ≤ K.1 + 1 + 1 by omega) (kBs_n (qs := qs) (K := kB K a i q) (i := i + 1))
theorem qsW_of {w : List Int} {n j : Nat} {q : Int × Int} (h : (qsW w n)[j]? = some q) : j < n ∧ q = (w.getD j 0, w.getD j 0) := by
  unfold qsW at h
  by_cases hj : j < n
  · rw [List.getElem?_map, List.getElem?_range hj] at h
    exact ⟨hj, (Option.some.inj h).symm⟩
  · rw [List.getElem?_eq_none (by rw [List.length_map, List.length_range]; omega)] at h
    cases h
theorem qsW_ap {w : List Int} {n j : Nat} {q r : Int × Int} (h : (qsW w n ++ [r])[j]? = some q) : (j < n ∧ q = (w.getD j 0, w.getD j 0)) ∨ (j = n ∧ q = r) := by
  have hl : (qsW w n).length = n := by
    unfold qsW
    rw [List.length_map, List.length_range]
  by_cases hj : j < n
  · rw [List.getElem?_append_left (by rw [hl]; exact hj)] at h
    exact Or.inl (qsW_of h)
  · rw [List.getElem?_append_right (by rw [hl]; omega), hl] at h
    by_cases e : j = n
    · subst e
      rw [Nat.sub_self] at h
      exact Or.inr ⟨rfl, (Option.some.inj h).symm⟩
    · rw [List.getElem?_eq_none (by show 1 ≤ j - n; omega)] at h
      cases h
theorem ltk_of {ρ' : Nat → Int} {i : Int} (h : ρ' 2 + i < ρ' 1) : aev ρ' (ltk i) ≤ 0 := by
  unfold ltk lt_
  rw [aev_add, aev_co, aev_add, aev_co, aev_sub, aev_id, aev_id]
  omega
theorem lek_of {ρ' : Nat → Int} {i : Int} (h : ρ' 1 ≤ ρ' 2 + i) : aev ρ' (lek i) ≤ 0 := by
  unfold lek le_
  rw [aev_add, aev_co, aev_sub, aev_id, aev_id]
  omega
theorem kWd_of {ts : tsT} {qs : List (Int × Int)} {F : List aL} {fr : List aFr} {cfr : List cFr} (hM : aInv M) (hk : lOk M) (hts : ∀ t ∈ ts, t ∈ cons_) (hf : (M 56 27).toInt = -1) (hq : ∀ (j : Nat) (q : Int × Int), qs[j]? = some q → q.1 ≤ mB M ((j : Int) + (M 56 26).toInt).toNat ∧ mB M ((j : Int) + (M 56 26).toInt).toNat ≤ q.2) (hw : F.all (awl 4) = true) (hF : ∀ ρ' : Nat → Int, ρ' 1 = mT M → ρ' 2 = (M 56 26).toInt → ∀ f ∈ F, aev ρ' f ≤ 0) (hS : aHS xs L [] M k1_ ρ fr cfr) : ∃ ρ2, aHS xs L [] M (kWd ts qs F) ρ2 fr cfr ∧ ρ2 1 = mT M ∧ ρ2 2 = (M 56 26).toInt ∧ ρ2 3 = -1 := by
  obtain ⟨ρ1, hS1, -, g1, g2, g3⟩ := kV_of (K := k1_) (q := (-1, -1)) hM (by dsimp only; omega) hS
  have g1 : ρ1 1 = mT M := g1
  have g2 : ρ1 2 = (M 56 26).toInt := g2
  have g3 : ρ1 3 = (M 56 27).toInt := g3
  have h26 := hM.1.2 56 26 (0, 121) rfl
  have hS2 := aHS_facts (F := F) hS1 hw (fun f hf => hF ρ1 g1 g2 f hf)
  obtain ⟨ρ2, hS3, hag⟩ := aHS_bytes (a := 2) hM (by rw [g2]; exact h26.1) qs 0 (kF (kV k1_ (-1, -1)) F) ρ1 (agr_refl _ _) (show 2 < 4 by decide) hS2 (fun j q hj => by
    have := hq j q hj
    rw [g2, show ((0 : Nat) : Int) + (j : Int) + (M 56 26).toInt = (j : Int) + (M 56 26).toInt by omega]
    exact this)
  refine ⟨ρ2, aHS_cells hS3 (fun t ht => hk t (hts t ht)), ?_, ?_, ?_⟩
  · rw [hag 1 (show 1 < 4 by decide)]
    exact g1
  · rw [hag 2 (show 2 < 4 by decide)]
    exact g2
  · rw [hag 3 (show 3 < 4 by decide), g3]
    exact hf
theorem cW_of {fr : List aFr} {A B : aL} {cfr : List cFr} (hS : aHS xs L [] M (cW 0 A B).2 ρ fr cfr) : (M 56 26).toInt = aev ρ A ∧ (M 56 27).toInt = aev ρ B := by
  have c2 := (hS.ce (q := ((56, aco 26), A)) (List.mem_cons_self ..)).2
  have c3 := (hS.ce (q := ((56, aco 27), B)) (List.mem_cons_of_mem _ (List.mem_cons_self ..))).2
  dsimp only at c2 c3
  rw [aev_co] at c2 c3
  exact ⟨c2, c3⟩
theorem f175_ (hL : L ≤ 2560) {f t : Int} {ws : List (List Int)} {gs : List (Int × Int)} {ts0 : tsT} {tsf : Nat → tsT} (hts0 : ∀ t ∈ ts0, t ∈ cons_) (htsf : ∀ j, ∀ t ∈ tsf j, t ∈ cons_) (ok : s175 ts0 f t gs = true) (o4 : ∀ j, j < ws.length → okW (tsf j) f t j (ws.getD j []) = true) (hft : f + ws.length = t) (h0 : 0 < ws.length) (hws : ∀ w ∈ ws, ∀ c ∈ w, c ≠ -1) (hne : ∀ w ∈ ws, w ≠ []) (hdis : ∀ (k : Nat) (w : List Int), ws[k]? = some w → ∀ (i : Nat) (w' : List Int), ws[i]? = some w' → i < k → w'.headD (-2) ≠ w.headD (-2)) (hg : ∀ v : Int, 0 ≤ v → v ≤ 255 → (∃ w ∈ ws, v = w.headD (-2)) ∨ ∃ q ∈ gs, q.1 ≤ v ∧ v ≤ q.2) {x y : Int32} (hx : x.toInt = f) (hy : y.toInt = t) : mOp xs L 175 [.ref 56, .int x, .int y] (fun b T s => wrd b T ws s) (fun v => ∃ d : Int32, v = some (.int d) ∧ f ≤ d.toInt ∧ d.toInt ≤ t - 1) := by
  unfold s175 at ok
  rw [Bool.and_eq_true, Bool.and_eq_true] at ok
  obtain ⟨⟨o1, o2⟩, o3⟩ := ok
  intro M Q hM hR hk hQ
  have hS0 : aHS xs L [] M k1_ (fun _ => (L : Int)) [(175, 0, p175 f t, [])] [(175, 0, xent 175 [.ref 56, .int x, .int y], [])] := by
    intro ρ' h
    have h0 : ρ' 0 = (L : Int) := h 0 (by decide)
    refine ⟨⟨by decide, h0, fun t ht => ?_, fun f hf => (by cases hf), fun q hq => (by cases hq), fun q hq => (by cases hq), fun j pr hj => (by cases hj), fun j r hj i => Or.inl (hR j r hj i)⟩, ⟨rfl, rfl, ⟨rfl, ?_, ?_, trivial, trivial, trivial, trivial, trivial, trivial⟩, trivial⟩, trivial⟩
    · have et := List.mem_singleton.mp ht
      subst et
      show (0 : Int) ≤ ρ' 0 ∧ ρ' 0 ≤ 2560
      omega
    · show x.toInt = aev ρ' (aco f)
      rw [aev_co]
      exact hx
    · show y.toInt = aev ρ' (aco t)
      rw [aev_co]
      exact hy
  show aGl xs L Q M [(175, 0, xent 175 [.ref 56, .int x, .int y], [])]
  have h26 := hM.1.2 56 26 (0, 121) rfl
  have h27 := hM.1.2 56 27 (-1, 121) rfl
  dsimp only at h26 h27
  rcases mS_3 hM with ⟨hf, es⟩ | ⟨hf, es⟩
  · obtain ⟨ρ2, hS2, -, g1, g2, g3⟩ := kV_of (K := k1_) (q := (0, 121)) hM ⟨hf, h27.2⟩ hS0
    have g3 : ρ2 3 = (M 56 27).toInt := g3
    refine seg prs0 allc0 hL o1 rfl hS2 hM (fun ρ3 M3 cfr3 hS3 hM3 hU3 hag => ?_)
    obtain ⟨c1, c2⟩ := cW_of hS3
    rw [aev_id, hag 3 (by decide)] at c2
    refine ret_i (y := 175) (pc := 155) rfl rfl hS3 (fun d hd => hQ (some (.int d)) M3 hM3 (hS3.rk rfl) (wM_ok hU3 hk) hU3 ⟨d, rfl, by rw [hd, aev_co]; omega, by rw [hd, aev_co]; omega⟩ ?_)
    show mS M3 = wrd (mB M) (mT M) ws (mS M)
    rw [es, mS_f (c2.trans g3) hf]
    refine (wrd_f (fun w hw => ?_)).symm
    cases w with
    | nil => exact absurd rfl (hne _ hw)
    | cons c cs => exact hws _ hw c (List.mem_cons_self ..)
  · have step : ∀ {ts : tsT} {best : Int} {qs : List (Int × Int)} {F : List aL} {A B : aL}, (∀ t ∈ ts, t ∈ cons_) → r175 f t best A B (kWd ts qs F) = true → f ≤ best → best ≤ t - 1 → (∀ (j : Nat) (q : Int × Int), qs[j]? = some q → q.1 ≤ mB M ((j : Int) + (M 56 26).toInt).toNat ∧ mB M ((j : Int) + (M 56 26).toInt).toNat ≤ q.2) → F.all (awl 4) = true → (∀ ρ' : Nat → Int, ρ' 1 = mT M → ρ' 2 = (M 56 26).toInt → ∀ f ∈ F, aev ρ' f ≤ 0) → (∀ (ρ2 : Nat → Int) (M' : xM), ρ2 2 = (M 56 26).toInt → ρ2 3 = -1 → (M' 56 26).toInt = aev ρ2 A → (M' 56 27).toInt = aev ρ2 B → mS M' = wrd (mB M) (mT M) ws (mS M)) → aGl xs L Q M [(175, 0, xent 175 [.ref 56, .int x, .int y], [])] := by
      intro ts best qs F A B hts hr hb1 hb2 hq hw hF hend
      obtain ⟨ρ2, hS2, g1, g2, g3⟩ := kWd_of (ts := ts) (qs := qs) (F := F) hM hk hts hf hq hw hF hS0
      refine seg prs0 allc0 hL hr (Nat.ble_eq_true_of_le (kBs_n (a := 2) (qs := qs) (K := kF (kV k1_ (-1, -1)) F) (i := ((0 : Nat) : Int)))) hS2 hM (fun ρ3 M3 cfr3 hS3 hM3 hU3 hag => ?_)
      obtain ⟨c1, c2⟩ := cW_of hS3
      exact ret_i (y := 175) (pc := 155) rfl rfl hS3 (fun d hd => hQ (some (.int d)) M3 hM3 (hS3.rk rfl) (wM_ok hU3 hk) hU3 ⟨d, rfl, by rw [hd, aev_co]; omega, by rw [hd, aev_co]; omega⟩ (hend ρ3 M3 ((hag 2 (by decide)).trans g2) ((hag 3 (by decide)).trans g3) c1 c2))
    have none_ : (∀ w ∈ ws, nxt (mB M) (mT M) ((M 56 26).toInt, false) ≠ w.headD (-2)) → ∀ (ρ2 : Nat → Int) (M' : xM), ρ2 2 = (M 56 26).toInt → ρ2 3 = -1 → (M' 56 26).toInt = aev ρ2 (an_ 0) → (M' 56 27).toInt = aev ρ2 (an_ 0) → mS M' = wrd (mB M) (mT M) ws (mS M) := by
      intro hno ρ2 M' a1 a2 c1 c2
      unfold an_ at c2
      rw [aev_s] at c2
      rw [es, wrd_no hno, mS_f (a := (M 56 26).toInt) (by omega) h26.1]
    by_cases hT : (M 56 26).toInt < mT M
    · have hnx := nxt_b (b := mB M) hT
      have hbb := mB_b (M := M) (i := (M 56 26).toInt.toNat)
      by_cases hm : ∃ w ∈ ws, mB M (M 56 26).toInt.toNat = w.headD (-2)
      · obtain ⟨w, hw, hv⟩ := hm
        obtain ⟨j, hj, ej⟩ := List.getElem_of_mem hw
        have ej2 : ws[j]? = some w := by rw [List.getElem?_eq_getElem hj, ej]
        have hwt := wrd_at (b := mB M) (T := mT M) (s := ((M 56 26).toInt, false)) ej2 (hdis j w ej2) (hnx.trans hv)
        have okj := o4 j hj
        rw [List.getD_eq_getElem?_getD, ej2] at okj
        have okj : okW (tsf j) f t j w = true := okj
        obtain ⟨n, n1, n2, n3⟩ := lcp (mB M) (mT M) (M 56 26).toInt w
        have hwne := hne w hw
        have hd0 : w.headD (-2) = w.getD 0 0 := by
          cases w with
          | nil => exact absurd rfl hwne
          | cons c cs => rfl
        have hlen : 0 < w.length := by
          cases w with
          | nil => exact absurd rfl hwne
          | cons c cs => exact Nat.succ_pos _
        have hn1 : 1 ≤ n := by
          by_cases hn0 : n = 0
          · subst hn0
            rcases n3 with h | ⟨_, h⟩
            · omega
            · refine absurd ⟨?_, ?_⟩ h
              · have : (M 56 26).toInt + ((0 : Nat) : Int) = (M 56 26).toInt := by omega
                rw [this]
                exact hT
              · have : (M 56 26).toInt + ((0 : Nat) : Int) = (M 56 26).toInt := by omega
                rw [this, hv, hd0]
          · omega
        have okn := List.all_eq_true.mp okj (n - 1) (List.mem_range.mpr (by omega))
        rw [Nat.sub_add_cancel hn1] at okn
        unfold okW1 at okn
        have hlast := (n2 (n - 1) (by omega)).1
        have e1 : ((n - 1 : Nat) : Int) = (n : Int) - 1 := by omega
        rw [e1] at hlast
        have qok : ∀ (i : Nat) (q : Int × Int), i < n → q = (w.getD i 0, w.getD i 0) → q.1 ≤ mB M ((i : Int) + (M 56 26).toInt).toNat ∧ mB M ((i : Int) + (M 56 26).toInt).toNat ≤ q.2 := by
          intro i q hi eq
          subst eq
          have := (n2 i hi).2
          rw [Int.add_comm] at this
          rw [this]
          exact ⟨Int.le_refl _, Int.le_refl _⟩
        by_cases hnl : n = w.length
        · rw [show Nat.beq n w.length = true by rw [← hnl]; exact Nat.beq_refl n, cond_true] at okn
          refine step (htsf j) okn (by omega) (by omega) (fun i q hi => qok i q (qsW_of hi).1 (qsW_of hi).2) rfl (fun ρ' a1 a2 fct hf => ?_) (fun ρ2 M' a1 a2 c1 c2 => ?_)
          · have ef := List.mem_singleton.mp hf
            subst ef
            exact ltk_of (by omega)
          · unfold an_ at c1
            rw [aev_s] at c1
            rw [aev_id] at c2
            rw [es, hwt, txt_all (fun i hi => n2 i (by omega)), mS_n (a := (M 56 26).toInt + w.length) (by omega) (by omega)]
        · have hnot : ¬ ((M 56 26).toInt + n < mT M ∧ mB M ((M 56 26).toInt + n).toNat = w.getD n 0) := by
            rcases n3 with h | h
            · exact absurd h hnl
            · exact h.2
          have hnlt : n < w.length := by omega
          rw [show Nat.beq n w.length = false from Bool.eq_false_iff.mpr (fun h => hnl (Nat.eq_of_beq_eq_true h)), cond_false, Bool.and_eq_true, Bool.and_eq_true] at okn
          have fin : ∀ (ρ2 : Nat → Int) (M' : xM), ρ2 2 = (M 56 26).toInt → ρ2 3 = -1 → (M' 56 26).toInt = aev ρ2 (an_ n) → (M' 56 27).toInt = aev ρ2 (an_ n) → mS M' = wrd (mB M) (mT M) ws (mS M) := by
            intro ρ2 M' a1 a2 c1 c2
            unfold an_ at c2
            rw [aev_s] at c2
            rw [es, hwt, txt_part (hws w hw) hnlt n2 hnot, mS_f (a := (M 56 26).toInt + n) (by omega) (by omega)]
          by_cases hTn : (M 56 26).toInt + n < mT M
          · have hbn : mB M ((M 56 26).toInt + n).toNat ≠ w.getD n 0 := fun h => hnot ⟨hTn, h⟩
            have hb2 := mB_b (M := M) (i := ((M 56 26).toInt + n).toNat)
            have fk : ∀ ρ' : Nat → Int, ρ' 1 = mT M → ρ' 2 = (M 56 26).toInt → ∀ f ∈ [ltk n], aev ρ' f ≤ 0 := fun ρ' a1 a2 fct hf => by
              have ef := List.mem_singleton.mp hf
              subst ef
              exact ltk_of (by omega)
            by_cases hlt : mB M ((M 56 26).toInt + n).toNat < w.getD n 0
            · refine step (htsf j) okn.2.1 (by omega) (by omega) (fun i q hi => ?_) rfl fk fin
              rcases qsW_ap hi with h | h
              · exact qok i q h.1 h.2
              · rw [h.1, h.2, show ((n : Int) + (M 56 26).toInt) = (M 56 26).toInt + n from Int.add_comm _ _]
                exact ⟨hb2.1, by show _ ≤ w.getD n 0 - 1; omega⟩
            · refine step (htsf j) okn.2.2 (by omega) (by omega) (fun i q hi => ?_) rfl fk fin
              rcases qsW_ap hi with h | h
              · exact qok i q h.1 h.2
              · rw [h.1, h.2, show ((n : Int) + (M 56 26).toInt) = (M 56 26).toInt + n from Int.add_comm _ _]
                exact ⟨by show w.getD n 0 + 1 ≤ _; omega, hb2.2⟩
          · refine step (htsf j) okn.1 (by omega) (by omega) (fun i q hi => qok i q (qsW_of hi).1 (qsW_of hi).2) rfl (fun ρ' a1 a2 fct hf => ?_) fin
            simp only [List.mem_cons, List.not_mem_nil, or_false] at hf
            rcases hf with ef | ef
            · subst ef
              exact ltk_of (by omega)
            · subst ef
              exact lek_of (by omega)
      · rcases hg _ hbb.1 hbb.2 with h | ⟨q, hq, hq2⟩
        · exact absurd h hm
        · refine step hts0 (List.all_eq_true.mp o3 q hq) (Int.le_refl _) (by omega) (fun i r hi => ?_) rfl (fun ρ' a1 a2 fct hf => ?_) (none_ (fun w hw h => hm ⟨w, hw, by rw [← h, hnx]⟩))
          · match i, hi with
            | 0, hi =>
              have er : q = r := Option.some.inj hi
              subst er
              have e0' : ((0 : Nat) : Int) + (M 56 26).toInt = (M 56 26).toInt := by omega
              rw [e0']
              exact hq2
          · have ef := List.mem_singleton.mp hf
            subst ef
            exact ltk_of (by omega)
    · have hnx := nxt_e (b := mB M) (show mT M ≤ (M 56 26).toInt by omega)
      refine step hts0 o2 (Int.le_refl _) (by omega) (fun i q hi => by cases hi) rfl (fun ρ' a1 a2 fct hf => ?_) (none_ (fun w hw h => ?_))
      · have ef := List.mem_singleton.mp hf
        subst ef
        exact lek_of (by omega)
      · rw [hnx] at h
        have hwne := hne w hw
        cases w with
        | nil => exact hwne rfl
        | cons c cs => exact hws _ hw c (List.mem_cons_self ..) h.symm
end AWW
theorem dis_of {ws : List (List Int)} (h : (List.range ws.length).all (fun k => (List.range k).all (fun i => !decide ((ws.getD i []).headD (-2) = (ws.getD k []).headD (-2)))) = true) : ∀ (k : Nat) (w : List Int), ws[k]? = some w → ∀ (i : Nat) (w' : List Int), ws[i]? = some w' → i < k → w'.headD (-2) ≠ w.headD (-2) := by
  intro k w hk i w' hi hlt
  have hkl : k < ws.length := by
    by_cases c : k < ws.length
    · exact c
    · rw [List.getElem?_eq_none (by omega)] at hk
      cases hk
  have h1 := List.all_eq_true.mp (List.all_eq_true.mp h k (List.mem_range.mpr hkl)) i (List.mem_range.mpr hlt)
  rw [List.getD_eq_getElem?_getD, List.getD_eq_getElem?_getD, hk, hi] at h1
  have h2 := Bool.not_eq_true' _ ▸ h1
  exact of_decide_eq_false h2
theorem gaps_of {ws : List (List Int)} {gs : List (Int × Int)} (h : (List.range 256).all (fun (v : Nat) => ws.any (fun w => decide ((v : Int) = w.headD (-2))) || gs.any (fun q => ileb q.1 v && ileb v q.2)) = true) (v : Int) (h0 : 0 ≤ v) (h1 : v ≤ 255) : (∃ w ∈ ws, v = w.headD (-2)) ∨ ∃ q ∈ gs, q.1 ≤ v ∧ v ≤ q.2 := by
  have hv := List.all_eq_true.mp h v.toNat (List.mem_range.mpr (by omega))
  rw [Int.toNat_of_nonneg h0, Bool.or_eq_true] at hv
  rcases hv with hv | hv
  · obtain ⟨w, hw, e⟩ := List.any_eq_true.mp hv
    exact Or.inl ⟨w, hw, of_decide_eq_true e⟩
  · obtain ⟨q, hq, e⟩ := List.any_eq_true.mp hv
    rw [Bool.and_eq_true, ileb_iff, ileb_iff] at e
    exact Or.inr ⟨q, hq, e⟩
theorem h175_0 {xs : Nat → Int32} {L : Nat} (hL : L ≤ 2560) {x y : Int32} (hx : x.toInt = 0) (hy : y.toInt = 5) : mOp xs L 175 [.ref 56, .int x, .int y] (fun b T s => wrd b T wK s) (fun v => ∃ d : Int32, v = some (.int d) ∧ 0 ≤ d.toInt ∧ d.toInt ≤ 5 - 1) := f175_ hL tsK_in tfK_in t175_K w175_K (by decide) (by decide) (by decide) (by decide) (dis_of (by decide +kernel)) (gaps_of (by decide +kernel)) hx hy
theorem h175_5 {xs : Nat → Int32} {L : Nat} (hL : L ≤ 2560) {x y : Int32} (hx : x.toInt = 5) (hy : y.toInt = 9) : mOp xs L 175 [.ref 56, .int x, .int y] (fun b T s => wrd b T wF s) (fun v => ∃ d : Int32, v = some (.int d) ∧ 5 ≤ d.toInt ∧ d.toInt ≤ 9 - 1) := f175_ hL tsF_in tfF_in t175_F w175_F (by decide) (by decide) (by decide) (by decide) (dis_of (by decide +kernel)) (gaps_of (by decide +kernel)) hx hy
