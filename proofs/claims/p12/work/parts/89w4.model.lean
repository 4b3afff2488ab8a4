/-! THE TAPE, of the reference -/
def mB (M : xM) (i : Nat) : Int := (M 70 i &&& 255).toInt
def mT (M : xM) : Int := (M 56 16).toInt
def mS (M : xM) : tSt := if (M 56 27).toInt < 0 then ((M 56 26).toInt, false) else ((M 56 27).toInt, true)
def wM : aW := ([], [(56, 26), (56, 27)])
def lets : List Int := [112, 108, 97, 110, 107, 115, 101, 97, 116, 97, 112, 112, 101, 97, 108, 110, 97, 109, 101, 99, 108, 111, 115, 101, 98, 97, 108, 108, 111, 116, 115, 115, 101, 97, 116, 115, 112, 108, 97, 110, 107, 115, 100, 101, 112, 116, 104]
def begs : List Int := [0, 5, 9, 15, 19, 24, 31, 36, 42]
def szs : List Int := [5, 4, 6, 4, 5, 7, 5, 6, 5]
def row_ (p : Nat) (l : List Int) : List (Nat × Nat × Int) := (List.range l.length).map (fun i => (p, i, l.getD i 0))
def cons_ : List (Nat × Nat × Int) := row_ 79 lets ++ (row_ 80 begs ++ row_ 81 szs)
def lOk (M : xM) : Prop := ∀ t ∈ cons_, (M t.1 t.2.1).toInt = t.2.2
theorem mB_b {M : xM} {i : Nat} : 0 ≤ mB M i ∧ mB M i ≤ 255 := i32_and (x := M 70 i) (y := 255) (by decide)
theorem cons_p : cons_.all (fun t => Nat.ble 79 t.1 && Nat.ble t.1 81) = true := by decide +kernel
theorem lOk_kept {M M' : xM} {w : aW} (hw : ∀ p i, 79 ≤ p → p ≤ 81 → aWin w p i = false) (h : lOk M) (hU : aUnw w M M') : lOk M' := fun t ht => by
  have e := List.all_eq_true.mp cons_p t ht
  rw [Bool.and_eq_true] at e
  rw [hU t.1 t.2.1 (hw _ _ (Nat.le_of_ble_eq_true e.1) (Nat.le_of_ble_eq_true e.2))]
  exact h t ht
theorem p79 {p : Nat} (h1 : 79 ≤ p) (h2 : p ≤ 81) : p = 79 ∨ p = 80 ∨ p = 81 := by omega
theorem wM_l (p i : Nat) (h1 : 79 ≤ p) (h2 : p ≤ 81) : aWin wM p i = false := by
  rcases p79 h1 h2 with e | e | e <;> subst e <;> rfl
/-- a method of the reference that reads -/
def mOp (xs : Nat → Int32) (L z : Nat) (as : List Value) (F : (Nat → Int) → Int → tSt → tSt) (R : Option Value → Prop) : Prop := ∀ (M : xM) (Q : xZ → Prop), aInv M → aRk M → lOk M → (∀ v M', aInv M' → aRk M' → lOk M' → aUnw wM M M' → R v → mS M' = F (mB M) (mT M) (mS M) → Q (v, 102, xsh0, M')) → PL xs L z (0, xent z as, [], 102, xsh0, M) Q
theorem wM_T {M M' : xM} (h : aUnw wM M M') : mT M' = mT M := by
  unfold mT
  rw [h 56 16 rfl]
theorem wM_B {M M' : xM} (h : aUnw wM M M') : mB M' = mB M := by
  funext i
  unfold mB
  rw [h 70 i rfl]
theorem wM_ok {M M' : xM} (h : aUnw wM M M') (hk : lOk M) : lOk M' := lOk_kept wM_l hk h
-- ---- what is looked at beforehand: taped, at, fault; bytes behind at
def kV (K : aKn) (q : Int × Int) : aKn := kcell (kcell (kcell K 56 (aco 16) (0, 120)) 56 (aco 26) (0, 121)) 56 (aco 27) q
def kB (K : aKn) (a : Nat) (i : Int) (q : Int × Int) : aKn := (K.1 + 1 + 1, (K.1 + 1, q) :: (K.1, (-128, 127)) :: K.2.1, K.2.2.1, ((70, (i, [(a, 1)])), aid K.1) :: K.2.2.2.1, ((1, aid K.1, aco 255), aid (K.1 + 1)) :: K.2.2.2.2.1, K.2.2.2.2.2)
def kF (K : aKn) (F : List aL) : aKn := (K.1, K.2.1, F ++ K.2.2.1, K.2.2.2)
def kBs (K : aKn) (a : Nat) : Int → List (Int × Int) → aKn
  | _, [] => K
  | i, q :: qs => kBs (kB K a i q) a (i + 1) qs
def kCs (K : aKn) (C : aC) : aKn := (K.1, K.2.1, K.2.2.1, C ++ K.2.2.2.1, K.2.2.2.2)
section AWM
variable {xs : Nat → Int32} {L : Nat} {prs : List (Nat × Nat)} {ρ : Nat → Int} {M : xM} {Q : xZ → Prop}
theorem aHS_byte {K : aKn} {fr : List aFr} {cfr : List cFr} {a : Nat} {i : Int} {q : Int × Int} (hM : aInv M) (hS : aHS xs L prs M K ρ fr cfr) (ha : a < K.1) (h0 : 0 ≤ i + ρ a) (hq : q.1 ≤ mB M (i + ρ a).toNat ∧ mB M (i + ρ a).toNat ≤ q.2) : aHS xs L prs M (kB K a i q) (apush (apush ρ K.1 (M 70 (i + ρ a).toNat).toInt) (K.1 + 1) (mB M (i + ρ a).toNat)) fr cfr := by
  intro ρ' hρ
  have hρ0 : agr K.1 ρ ρ' := fun k hk => by
    rw [hρ k (by show k < K.1 + 1 + 1; omega)]
    unfold apush
    rw [if_neg (by omega), if_neg (by omega)]
  have hx : ρ' K.1 = (M 70 (i + ρ a).toNat).toInt := by
    rw [hρ K.1 (by show K.1 < K.1 + 1 + 1; omega)]
    unfold apush
    rw [if_neg (by omega), if_pos rfl]
  have hy : ρ' (K.1 + 1) = mB M (i + ρ a).toNat := by
    rw [hρ (K.1 + 1) (by show K.1 + 1 < K.1 + 1 + 1; omega)]
    exact apush_self
  have hl : aev ρ' (i, [(a, 1)]) = i + ρ a := by rw [aev_s, hρ0 a ha]
  have h70 := hM.1.1 70 (-128, 127) rfl (i + ρ a).toNat
  obtain ⟨⟨k1, k2, k3, k4, k5, k6, k7⟩, kf⟩ := hS ρ' hρ0
  refine ⟨⟨Nat.succ_pos _, k2, aok_cons (aok_cons k3 ?_ ?_) ?_ ?_, k4, acc_cons k5 ?_ ?_, fun u hu => ?_, k7⟩, kf⟩
  · show (-128 : Int) ≤ ρ' K.1
    rw [hx]; exact h70.1
  · show ρ' K.1 ≤ (127 : Int)
    rw [hx]; exact h70.2
  · show q.1 ≤ ρ' (K.1 + 1)
    rw [hy]; exact hq.1
  · show ρ' (K.1 + 1) ≤ q.2
    rw [hy]; exact hq.2
  · rw [hl]; exact h0
  · rw [hl, aev_id, hx]
  · rcases List.mem_cons.mp hu with e | e
    · subst e
      unfold aun1
      rw [if_neg (show ¬ (1 : Nat) = 20 by decide), if_neg (show ¬ (1 : Nat) = 21 by decide)]
      intro x y h1 h2
      dsimp only at h1 h2
      rw [aev_id, hx] at h1
      rw [aev_co] at h2
      have e1 : x = M 70 (i + ρ a).toNat := Int32.toInt_inj.mp h1
      have e2 : y = 255 := Int32.toInt_inj.mp (by rw [h2]; rfl)
      subst e1; subst e2
      show (M 70 (i + ρ a).toNat &&& 255).toInt = aev ρ' (aid (K.1 + 1))
      rw [aev_id, hy]
      rfl
    · exact k6 u e
theorem aHS_bytes {fr : List aFr} {cfr : List cFr} {a : Nat} (hM : aInv M) (h0 : 0 ≤ ρ a) : ∀ (qs : List (Int × Int)) (i : Nat) (K : aKn) (ρ1 : Nat → Int), agr (a + 1) ρ ρ1 → a < K.1 → aHS xs L prs M K ρ1 fr cfr → (∀ (j : Nat) (q : Int × Int), qs[j]? = some q → q.1 ≤ mB M ((i : Int) + j + ρ a).toNat ∧ mB M ((i : Int) + j + ρ a).toNat ≤ q.2) → ∃ ρ2, aHS xs L prs M (kBs K a i qs) ρ2 fr cfr ∧ agr K.1 ρ1 ρ2
  | [], i, K, ρ1, _, _, hS, _ => ⟨ρ1, hS, agr_refl _ _⟩
  | q :: qs, i, K, ρ1, hag, hK, hS, hq => by
    have ea : ρ1 a = ρ a := hag a (by omega)
    have hq0 := hq 0 q rfl
    have e0' : (i : Int) + ((0 : Nat) : Int) + ρ a = i + ρ1 a := by rw [ea]; omega
    rw [e0'] at hq0
    have h1 := aHS_byte hM hS hK (by rw [ea]; omega) hq0
    obtain ⟨ρ2, h2, h3⟩ := aHS_bytes hM h0 qs (i + 1) (kB K a i q) _ (fun k hk => by
      unfold apush
      rw [if_neg (by omega), if_neg (by omega)]
      exact hag k hk) (show a < K.1 + 1 + 1 by omega) h1 (fun j q' hj => by
        have := hq (j + 1) q' hj
        rw [show ((i : Int) + ((j + 1 : Nat) : Int) + ρ a) = (((i + 1 : Nat) : Int) + j + ρ a) by omega] at this
        exact this)
    refine ⟨ρ2, ?_, fun k hk => ?_⟩
    · show aHS xs L prs M (kBs (kB K a i q) a ((i : Int) + 1) qs) ρ2 fr cfr
      exact h2
    · rw [h3 k (by show k < K.1 + 1 + 1; omega)]
      unfold apush
      rw [if_neg (by omega), if_neg (by omega)]
theorem aHS_facts {K : aKn} {fr : List aFr} {cfr : List cFr} {F : List aL} (hS : aHS xs L prs M K ρ fr cfr) (hw : F.all (awl K.1) = true) (hF : ∀ f ∈ F, aev ρ f ≤ 0) : aHS xs L prs M (kF K F) ρ fr cfr := by
  intro ρ' h
  obtain ⟨⟨k1, k2, k3, k4, k5⟩, kf⟩ := hS ρ' h
  refine ⟨⟨k1, k2, k3, fun f hf => ?_, k5⟩, kf⟩
  rcases List.mem_append.mp hf with e | e
  · rw [awl_of h (List.all_eq_true.mp hw f e)]
    exact hF f e
  · exact k4 f e
theorem aHS_cells {K : aKn} {fr : List aFr} {cfr : List cFr} {ts : List (Nat × Nat × Int)} (hS : aHS xs L prs M K ρ fr cfr) (hC : ∀ t ∈ ts, (M t.1 t.2.1).toInt = t.2.2) : aHS xs L prs M (kCs K (ts.map (fun t => ((t.1, aco t.2.1), aco t.2.2)))) ρ fr cfr := by
  intro ρ' h
  obtain ⟨⟨k1, k2, k3, k4, k5, k6⟩, kf⟩ := hS ρ' h
  refine ⟨⟨k1, k2, k3, k4, fun q hq => ?_, k6⟩, kf⟩
  rcases List.mem_append.mp hq with e | e
  · obtain ⟨t, ht, et⟩ := List.mem_map.mp e
    subst et
    dsimp only
    rw [aev_co, aev_co, Int.toNat_natCast]
    exact ⟨Int.natCast_nonneg _, hC t ht⟩
  · exact k5 q e
theorem kV_of {K : aKn} {fr : List aFr} {cfr : List cFr} {q : Int × Int} (hM : aInv M) (hq : q.1 ≤ (M 56 27).toInt ∧ (M 56 27).toInt ≤ q.2) (hS : aHS xs L prs M K ρ fr cfr) : ∃ ρ2, aHS xs L prs M (kV K q) ρ2 fr cfr ∧ agr K.1 ρ ρ2 ∧ ρ2 K.1 = mT M ∧ ρ2 (K.1 + 1) = (M 56 26).toInt ∧ ρ2 (K.1 + 2) = (M 56 27).toInt := by
  have h1 := hM.1.2 56 16 (0, 120) rfl
  have h2 := hM.1.2 56 26 (0, 121) rfl
  have s1 := aHS_cell (p := 56) (l := aco 16) (q := (0, 120)) hS rfl (by rw [aev_co]; decide) (by rw [aev_co]; exact h1)
  have s2 := aHS_cell (p := 56) (l := aco 26) (q := (0, 121)) s1 rfl (by rw [aev_co]; decide) (by rw [aev_co]; exact h2)
  have s3 := aHS_cell (p := 56) (l := aco 27) (q := q) s2 rfl (by rw [aev_co]; decide) (by rw [aev_co]; exact hq)
  rw [aev_co] at s1 s2 s3
  rw [aev_co] at s2 s3
  rw [aev_co] at s3
  refine ⟨_, s3, fun k hk => ?_, ?_, ?_, ?_⟩
  · show apush (apush (apush ρ K.1 (M 56 (Int.toNat 16)).toInt) (K.1 + 1) (M 56 (Int.toNat 26)).toInt) (K.1 + 1 + 1) (M 56 (Int.toNat 27)).toInt k = ρ k
    unfold apush
    rw [if_neg (by omega), if_neg (by omega), if_neg (by omega)]
  · show apush (apush (apush ρ K.1 (M 56 (Int.toNat 16)).toInt) (K.1 + 1) (M 56 (Int.toNat 26)).toInt) (K.1 + 1 + 1) (M 56 (Int.toNat 27)).toInt K.1 = _
    unfold apush
    rw [if_neg (by omega), if_neg (by omega), if_pos rfl]
    rfl
  · show apush (apush (apush ρ K.1 (M 56 (Int.toNat 16)).toInt) (K.1 + 1) (M 56 (Int.toNat 26)).toInt) (K.1 + 1 + 1) (M 56 (Int.toNat 27)).toInt (K.1 + 1) = _
    unfold apush
    rw [if_neg (by omega), if_pos rfl]
    rfl
  · show apush (apush (apush ρ K.1 (M 56 (Int.toNat 16)).toInt) (K.1 + 1) (M 56 (Int.toNat 26)).toInt) (K.1 + 1 + 1) (M 56 (Int.toNat 27)).toInt (K.1 + 2) = _
    unfold apush
    rw [if_pos rfl]
    rfl
/-- the three ways: a FAULT stands; nothing is left; a byte -/
theorem mS_3 (hM : aInv M) : (0 ≤ (M 56 27).toInt ∧ mS M = ((M 56 27).toInt, true)) ∨ ((M 56 27).toInt = -1 ∧ mS M = ((M 56 26).toInt, false)) := by
  have h := hM.1.2 56 27 (-1, 121) rfl
  dsimp only at h
  unfold mS
  by_cases c : (M 56 27).toInt < 0
  · rw [if_pos c]
    exact Or.inr ⟨by omega, rfl⟩
  · rw [if_neg c]
    exact Or.inl ⟨by omega, rfl⟩
theorem mS_f {a : Int} (h1 : (M 56 27).toInt = a) (h0 : 0 ≤ a) : mS M = (a, true) := by
  unfold mS
  rw [if_neg (by omega), h1]
theorem mS_n {a : Int} (h1 : (M 56 27).toInt < 0) (h2 : (M 56 26).toInt = a) : mS M = (a, false) := by
  unfold mS
  rw [if_pos h1, h2]
end AWM
section AWP
variable {b : Nat → Int} {T : Int}
theorem nxt_f {a : Int} : nxt b T (a, true) = -1 := by
  unfold nxt
  rw [if_neg (fun h => by cases h.1)]
theorem nxt_e {a : Int} (h : T ≤ a) : nxt b T (a, false) = -1 := by
  unfold nxt
  rw [if_neg (fun h' => by have := h'.2; dsimp only at this; omega)]
theorem nxt_b {a : Int} (h : a < T) : nxt b T (a, false) = b a.toNat := by
  unfold nxt
  rw [if_pos ⟨rfl, h⟩]
theorem sgn_f {a c : Int} (hc : c ≠ -1) : sgn b T c (a, true) = (a, true) := by
  unfold sgn
  rw [nxt_f, if_neg (fun h => hc h.symm)]
theorem txt_f {a : Int} : ∀ {cs : List Int}, (∀ c ∈ cs, c ≠ -1) → txt b T cs (a, true) = (a, true)
  | [], _ => rfl
  | c :: cs, h => by
    unfold txt
    rw [sgn_f (h c (List.mem_cons_self ..))]
    exact txt_f (fun d hd => h d (List.mem_cons_of_mem _ hd))
theorem dig_f {a l : Int} (hl : 0 ≤ l) : dig b T l (a, true) = (a, true) := by
  unfold dig
  rw [nxt_f, if_neg (by omega)]
theorem wrd_f {a : Int} {ws : List (List Int)} (h : ∀ w ∈ ws, w.headD (-2) ≠ -1) : wrd b T ws (a, true) = (a, true) := wrd_no (fun w hw => by
  rw [nxt_f]
  exact fun e => h w hw e.symm)
theorem num_f {a : Int} : num b T (a, true) = (a, true) := by
  unfold num
  rw [dig_f (Int.le_refl 0), nxt_f, if_neg (by omega)]
theorem tst_f {a : Int} : tst b T (a, true) = (a, true) := by
  unfold tst
  rw [wrd_f (by decide), wrd_f (by decide), num_f]
/-- as far as a word goes -/
theorem lcp (b : Nat → Int) (T a : Int) (w : List Int) : ∃ n, n ≤ w.length ∧ (∀ i, i < n → a + i < T ∧ b (a + i).toNat = w.getD i 0) ∧ (n = w.length ∨ (n < w.length ∧ ¬ (a + n < T ∧ b (a + n).toNat = w.getD n 0))) := by
  have key : ∀ m, m ≤ w.length → (∀ i, i < m → a + i < T ∧ b (a + i).toNat = w.getD i 0) ∨ ∃ n, n < m ∧ (∀ i, i < n → a + i < T ∧ b (a + i).toNat = w.getD i 0) ∧ ¬ (a + n < T ∧ b (a + n).toNat = w.getD n 0) := by
    intro m
    induction m with
    | zero => exact fun _ => Or.inl (fun i hi => absurd hi (Nat.not_lt_zero i))
    | succ m ih =>
      intro hm
      rcases ih (by omega) with h | ⟨n, h1, h2⟩
      · by_cases c : a + m < T ∧ b (a + m).toNat = w.getD m 0
        · refine Or.inl (fun i hi => ?_)
          by_cases e : i = m
          · subst e
            exact c
          · exact h i (by omega)
        · exact Or.inr ⟨m, by omega, h, c⟩
      · exact Or.inr ⟨n, by omega, h2⟩
  rcases key w.length (Nat.le_refl _) with h | ⟨n, h1, h2, h3⟩
  · exact ⟨w.length, Nat.le_refl _, h, Or.inl rfl⟩
  · exact ⟨n, by omega, h2, Or.inr ⟨h1, h3⟩⟩
theorem txt_go {w : List Int} : ∀ (n : Nat) (a : Int), n ≤ w.length → (∀ i, i < n → a + i < T ∧ b (a + i).toNat = w.getD i 0) → txt b T w (a, false) = txt b T (w.drop n) (a + n, false) := by
  intro n a
  induction n with
  | zero =>
    intro _ _
    rw [List.drop_zero]
    congr 2
    omega
  | succ n ih =>
    intro hn h
    rw [ih (by omega) (fun i hi => h i (by omega)), List.drop_eq_getElem_cons (by omega : n < w.length)]
    show txt b T (w.drop (n + 1)) (sgn b T w[n] (a + n, false)) = _
    have hh := h n (by omega)
    rw [List.getD_eq_getElem?_getD, List.getElem?_eq_getElem (by omega : n < w.length)] at hh
    have hh : a + n < T ∧ b (a + n).toNat = w[n] := hh
    unfold sgn
    rw [nxt_b hh.1, if_pos hh.2]
    congr 2
    show a + n + 1 = a + ((n + 1 : Nat) : Int)
    omega
theorem txt_all {w : List Int} {a : Int} (h : ∀ i, i < w.length → a + i < T ∧ b (a + i).toNat = w.getD i 0) : txt b T w (a, false) = (a + w.length, false) := by
  rw [txt_go w.length a (Nat.le_refl _) h, List.drop_length]
  rfl
theorem txt_part {w : List Int} {a : Int} {n : Nat} (hc : ∀ c ∈ w, c ≠ -1) (hn : n < w.length) (h : ∀ i, i < n → a + i < T ∧ b (a + i).toNat = w.getD i 0) (hno : ¬ (a + n < T ∧ b (a + n).toNat = w.getD n 0)) : txt b T w (a, false) = (a + n, true) := by
  rw [txt_go n a (by omega) h, List.drop_eq_getElem_cons hn]
  show txt b T (w.drop (n + 1)) (sgn b T w[n] (a + n, false)) = _
  rw [List.getD_eq_getElem?_getD, List.getElem?_eq_getElem hn] at hno
  have hno : ¬ (a + n < T ∧ b (a + n).toNat = w[n]) := hno
  have hne : nxt b T (a + n, false) ≠ w[n] := by
    by_cases c : a + n < T
    · rw [nxt_b c]
      exact fun e => hno ⟨c, e⟩
    · rw [nxt_e (by omega)]
      exact fun e => hc w[n] (List.getElem_mem hn) e.symm
  unfold sgn
  rw [if_neg hne]
  exact txt_f (fun c h => hc c (List.mem_of_mem_drop h))
end AWP
