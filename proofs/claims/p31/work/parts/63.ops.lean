/-! THE ANALYZER'S INSTRUCTIONS, one: numbers -/
def aFull : Int × Int := (.negSucc 2147483647, .ofNat 2147483647)
theorem aFull_of (z : Int32) : aFull.1 ≤ z.toInt ∧ z.toInt ≤ aFull.2 := by
  have h1 := Int32.le_toInt z
  have h2 := Int32.toInt_lt z
  show (-2147483648 : Int) ≤ z.toInt ∧ z.toInt ≤ 2147483647
  omega
def aqA (p : Nat) : Int × Int := match aIvA p with
  | some q => q
  | none => aFull
def aqF (p b : Nat) : Int × Int := match aIvF p b with
  | some q => q
  | none => aFull
def aIvOk (M : xM) : Prop := (∀ p q, aIvA p = some q → ∀ i, q.1 ≤ (M p i).toInt ∧ (M p i).toInt ≤ q.2) ∧ (∀ p b q, aIvF p b = some q → q.1 ≤ (M p b).toInt ∧ (M p b).toInt ≤ q.2)
theorem aqA_of {M : xM} (h : aIvOk M) (p i : Nat) : (aqA p).1 ≤ (M p i).toInt ∧ (M p i).toInt ≤ (aqA p).2 := by
  unfold aqA
  split
  · rename_i q e
    exact h.1 p q e i
  · exact aFull_of _
theorem aqF_of {M : xM} (h : aIvOk M) (p b : Nat) : (aqF p b).1 ≤ (M p b).toInt ∧ (M p b).toInt ≤ (aqF p b).2 := by
  unfold aqF
  split
  · rename_i q e
    exact h.2 p b q e
  · exact aFull_of _
section AOP
variable {xs : Nat → Int32} {L : Nat} {prs : List (Nat × Nat)}
def aNew (xs : Nat → Int32) (L : Nat) (prs : List (Nat × Nat)) (M : xM) (K : aKn) (ρ : Nat → Int) (K' : aKn) (P : (Nat → Int) → Prop) : Prop := ∃ ρ2, K.1 ≤ K'.1 ∧ agr K.1 ρ ρ2 ∧ ∀ ρ', agr K'.1 ρ2 ρ' → aKok xs L prs aRws ρ' K' M ∧ P ρ'
def aHK (xs : Nat → Int32) (L : Nat) (prs : List (Nat × Nat)) (M : xM) (K : aKn) (ρ : Nat → Int) : Prop := ∀ ρ', agr K.1 ρ ρ' → aKok xs L prs aRws ρ' K M
theorem aNew.same {M : xM} {K : aKn} {ρ : Nat → Int} {P : (Nat → Int) → Prop} (hK : aHK xs L prs M K ρ) (hP : ∀ ρ', agr K.1 ρ ρ' → P ρ') : aNew xs L prs M K ρ K P := ⟨ρ, Nat.le_refl _, agr_refl _ _, fun ρ' h => ⟨hK ρ' h, hP ρ' h⟩⟩
def afr (K : aKn) (q : Int × Int) : aL × aKn := (aid K.1, (K.1 + 1, (K.1, q) :: K.2.1, K.2.2))
theorem afr_of {M : xM} {K : aKn} {ρ : Nat → Int} {q : Int × Int} {z : Int} (hK : aHK xs L prs M K ρ) (hz : q.1 ≤ z ∧ z ≤ q.2) : aNew xs L prs M K ρ (afr K q).2 (fun ρ' => z = aev ρ' (afr K q).1) := by
  refine ⟨apush ρ K.1 z, Nat.le_succ _, apush_agr, fun ρ' hρ => ?_⟩
  have hρ : agr (K.1 + 1) (apush ρ K.1 z) ρ' := hρ
  have hρ0 : agr K.1 ρ ρ' := agr_trans (Nat.le_succ _) apush_agr hρ
  have hn : ρ' K.1 = z := (hρ K.1 (Nat.lt_succ_self _)).trans apush_self
  obtain ⟨k1, k2, k3, k4, k5, k6, k7, k8⟩ := hK ρ' hρ0
  refine ⟨⟨Nat.succ_pos _, k2, aok_cons k3 ?_ ?_, k4, k5, k6, k7, k8⟩, ?_⟩
  · show q.1 ≤ ρ' K.1
    rw [hn]; exact hz.1
  · show ρ' K.1 ≤ q.2
    rw [hn]; exact hz.2
  · show z = aev ρ' (aid K.1)
    rw [aev_id, hn]
def ain32 (K : aKn) (l : aL) : Bool := apr K.2.1 K.2.2.1 (asub l (aco 2147483647)) && apr K.2.1 K.2.2.1 (asub (aco (-2147483648)) l)
theorem ain32_of {M : xM} {K : aKn} {ρ : Nat → Int} {l : aL} (hK : aKok xs L prs aRws ρ K M) (h : ain32 K l = true) : -2147483648 ≤ aev ρ l ∧ aev ρ l ≤ 2147483647 := by
  unfold ain32 at h
  rw [Bool.and_eq_true] at h
  have h1 := apr_of hK.2.2.1 hK.2.2.2.1 h.1
  have h2 := apr_of hK.2.2.1 hK.2.2.2.1 h.2
  rw [aev_sub, aev_co] at h1 h2
  omega
def anm (K : aKn) (l : aL) : aL × aKn := bif ain32 K l then (l, K) else afr K aFull
theorem anm_of {M : xM} {K : aKn} {ρ : Nat → Int} {l : aL} {z : Int32} (hK : aHK xs L prs M K ρ) (hz : ∀ ρ', agr K.1 ρ ρ' → -2147483648 ≤ aev ρ' l → aev ρ' l ≤ 2147483647 → z.toInt = aev ρ' l) : aNew xs L prs M K ρ (anm K l).2 (fun ρ' => z.toInt = aev ρ' (anm K l).1) := by
  unfold anm
  cases c : ain32 K l with
  | true =>
    refine aNew.same hK (fun ρ' h => ?_)
    have := ain32_of (hK ρ' h) c
    exact hz ρ' h this.1 this.2
  | false => exact afr_of hK (aFull_of z)
-- ---- operations that are no sums
def abt (K : aKn) (l : aL) (q : Int × Int) : Bool := apr K.2.1 K.2.2.1 (asub l (aco q.2)) && apr K.2.1 K.2.2.1 (asub (aco q.1) l)
theorem abt_of {M : xM} {K : aKn} {ρ : Nat → Int} {l : aL} {q : Int × Int} (hK : aKok xs L prs aRws ρ K M) (h : abt K l q = true) : q.1 ≤ aev ρ l ∧ aev ρ l ≤ q.2 := by
  unfold abt at h
  rw [Bool.and_eq_true] at h
  have h1 := apr_of hK.2.2.1 hK.2.2.2.1 h.1
  have h2 := apr_of hK.2.2.1 hK.2.2.2.1 h.2
  rw [aev_sub, aev_co] at h1 h2
  omega
theorem i32_tn (x : Int32) : x.toInt = if 2 * x.toBitVec.toNat < 4294967296 then (x.toBitVec.toNat : Int) else (x.toBitVec.toNat : Int) - 4294967296 := by
  show x.toBitVec.toInt = _
  rw [BitVec.toInt_eq_toNat_cond]
  rfl
theorem i32_and {x y : Int32} (h : 0 ≤ y.toInt) : 0 ≤ (x &&& y).toInt ∧ (x &&& y).toInt ≤ y.toInt := by
  have e1 := i32_tn (x &&& y)
  have e2 := i32_tn y
  have e3 : (x &&& y).toBitVec.toNat = x.toBitVec.toNat &&& y.toBitVec.toNat := by
    rw [Int32.toBitVec_and, BitVec.toNat_and]
  have e4 : x.toBitVec.toNat &&& y.toBitVec.toNat ≤ y.toBitVec.toNat := Nat.and_le_right
  have e5 := y.toBitVec.isLt
  rw [e3] at e1
  split at e1 <;> split at e2 <;> omega
theorem i32_andc {x y : Int32} : x &&& y = y &&& x := by
  apply Int32.toBitVec_inj.mp
  rw [Int32.toBitVec_and, Int32.toBitVec_and, BitVec.and_comm]
theorem i32_xor (x y : Int32) : ((x ^^^ y).toInt < 0) ↔ ¬ ((x.toInt < 0) ↔ (y.toInt < 0)) := by
  have e1 : (x ^^^ y).toBitVec.msb = (x.toBitVec.msb ^^ y.toBitVec.msb) := by
    rw [Int32.toBitVec_xor, BitVec.msb_xor]
  have f (z : Int32) : z.toBitVec.msb = decide (z.toInt < 0) := BitVec.msb_eq_toInt
  rw [f, f, f] at e1
  by_cases h1 : x.toInt < 0 <;> by_cases h2 : y.toInt < 0 <;> simp [h1, h2] at e1 ⊢ <;> omega
theorem i32_div {x y : Int32} {c : Int} (hy : y.toInt = c) (hc : 0 < c) : (x / y).toInt = x.toInt.tdiv c := by
  rw [Int32.toInt_div_of_ne_right _ _ (by intro e; rw [e] at hy; have : (-1 : Int32).toInt = -1 := by decide
                                          omega), hy]
theorem i32_divp {x y : Int32} {c : Int} (hy : y.toInt = c) (hc : 0 < c) (hx : 0 ≤ x.toInt) : (x / y).toInt = x.toInt / c := by
  rw [i32_div hy hc, Int.tdiv_eq_ediv_of_nonneg hx]
theorem i32_rem {x y : Int32} {c : Int} (hy : y.toInt = c) (hc : 0 < c) (hx : 0 ≤ x.toInt) : (x - x / y * y).toInt = x.toInt % c := by
  have h1 := i32_divp hy hc hx
  have h2 := Int32.toInt_lt x
  have h3 : x.toInt / c * c ≤ x.toInt := Int.ediv_mul_le _ (by omega)
  have h4 : 0 ≤ x.toInt / c := Int.ediv_nonneg hx (by omega)
  have h5 : 0 ≤ x.toInt / c * c := Int.mul_nonneg h4 (by omega)
  have h6 : (x / y * y).toInt = x.toInt / c * c := by
    rw [Int32.toInt_mul, h1, hy, Int.bmod_eq_of_le] <;> omega
  rw [Int32.toInt_sub, h6, Int.bmod_eq_of_le (by omega) (by omega), Int.emod_def, Int.mul_comm c]
theorem i32_remb {x y : Int32} {c : Int} (hy : y.toInt = c) (hc : 0 < c) : 1 - c ≤ (x - x / y * y).toInt ∧ (x - x / y * y).toInt ≤ c - 1 := by
  by_cases hx : 0 ≤ x.toInt
  · rw [i32_rem hy hc hx]
    have h1 := Int.emod_nonneg x.toInt (b := c) (by omega)
    have h2 := Int.emod_lt_of_pos x.toInt (b := c) hc
    omega
  · have e1 := Int32.le_toInt x
    have h1 : (x / y).toInt = -((-x.toInt) / c) := by
      rw [i32_div hy hc]
      have : x.toInt.tdiv c = -((-x.toInt).tdiv c) := by rw [Int.neg_tdiv]; omega
      rw [this, Int.tdiv_eq_ediv_of_nonneg (by omega)]
    have h3 : (-x.toInt) / c * c ≤ -x.toInt := Int.ediv_mul_le _ (by omega)
    have h4 : 0 ≤ (-x.toInt) / c := Int.ediv_nonneg (by omega) (by omega)
    have h5 : 0 ≤ (-x.toInt) / c * c := Int.mul_nonneg h4 (by omega)
    have h6 : (x / y * y).toInt = -((-x.toInt) / c * c) := by
      rw [Int32.toInt_mul, h1, hy, Int.neg_mul, Int.bmod_eq_of_le] <;> omega
    have h7 := Int.emod_nonneg (-x.toInt) (b := c) (by omega)
    have h8 := Int.emod_lt_of_pos (-x.toInt) (b := c) hc
    have h9 : (-x.toInt) % c = -x.toInt - (-x.toInt) / c * c := by rw [Int.emod_def, Int.mul_comm c]
    rw [Int32.toInt_sub, h6, Int.bmod_eq_of_le (by omega) (by omega)]
    omega
theorem i32_divb {x y : Int32} {c : Int} (hy : y.toInt = c) (hc : 0 < c) : -(2147483648 / c) ≤ (x / y).toInt ∧ (x / y).toInt ≤ 2147483647 / c ∧ (x.toInt ≤ 0 → (x / y).toInt ≤ 0) := by
  have e1 := Int32.le_toInt x
  have e2 := Int32.toInt_lt x
  have z1 : 0 ≤ 2147483648 / c := Int.ediv_nonneg (by omega) (by omega)
  have z2 : 0 ≤ 2147483647 / c := Int.ediv_nonneg (by omega) (by omega)
  by_cases hx : 0 ≤ x.toInt
  · rw [i32_divp hy hc hx]
    have h1 : x.toInt / c ≤ 2147483647 / c := Int.ediv_le_ediv hc (by omega)
    have h2 : 0 ≤ x.toInt / c := Int.ediv_nonneg hx (by omega)
    refine ⟨by omega, h1, fun h => ?_⟩
    have : x.toInt = 0 := by omega
    rw [this, Int.zero_ediv]
    omega
  · have h1 : (x / y).toInt = -((-x.toInt) / c) := by
      rw [i32_div hy hc]
      have : x.toInt.tdiv c = -((-x.toInt).tdiv c) := by rw [Int.neg_tdiv]; omega
      rw [this, Int.tdiv_eq_ediv_of_nonneg (by omega)]
    have h2 : (-x.toInt) / c ≤ 2147483648 / c := Int.ediv_le_ediv hc (by omega)
    have h3 : 0 ≤ (-x.toInt) / c := Int.ediv_nonneg (by omega) (by omega)
    rw [h1]
    omega
def aoq (K : aKn) (o : Nat) (x y : aL) : Int × Int := match o with
  | 1 => (match y.2 with
    | [] => bif ileb 0 y.1 then (0, y.1) else aFull
    | _ => match x.2 with
      | [] => bif ileb 0 x.1 then (0, x.1) else aFull
      | _ => aFull)
  | 3 => bif apr K.2.1 K.2.2.1 (asub (aco 0) x) then (bif apr K.2.1 K.2.2.1 (asub (aco 0) y) then (0, .ofNat 2147483647) else bif apr K.2.1 K.2.2.1 (aadd (aco 1) y) then (.negSucc 2147483647, -1) else aFull)
      else bif apr K.2.1 K.2.2.1 (aadd (aco 1) x) && apr K.2.1 K.2.2.1 (asub (aco 0) y) then (.negSucc 2147483647, -1) else aFull
  | 7 => (match y.2 with
    | [] => bif ileb 1 y.1 then (bif apr K.2.1 K.2.2.1 (asub (aco 0) x) then (0, match ahi K.2.1 x with
        | some h => h / y.1
        | none => .ofNat 2147483647) else bif apr K.2.1 K.2.2.1 x then (-(2147483648 / y.1), 0) else (-(2147483648 / y.1), 2147483647 / y.1)) else aFull
    | _ => aFull)
  | 8 => (match y.2 with
    | [] => bif ileb 1 y.1 then (bif apr K.2.1 K.2.2.1 (asub (aco 0) x) then (0, y.1 - 1) else (1 - y.1, y.1 - 1)) else aFull
    | _ => aFull)
  | _ => aFull
theorem aev_nil {ρ : Nat → Int} {l : aL} (h : l.2 = []) : aev ρ l = l.1 := by
  unfold aev
  rw [h]
  exact Int.add_zero _
theorem aoq_of {M : xM} {K : aKn} {ρ : Nat → Int} {o : Nat} {x y : aL} {a b : Int32} (hK : aKok xs L prs aRws ρ K M) (ha : a.toInt = aev ρ x) (hb : b.toInt = aev ρ y) : (aoq K o x y).1 ≤ (aopf o a b).toInt ∧ (aopf o a b).toInt ≤ (aoq K o x y).2 := by
  have hF := aFull_of (aopf o a b)
  have hpr : ∀ {l : aL}, apr K.2.1 K.2.2.1 l = true → aev ρ l ≤ 0 := fun h => apr_of hK.2.2.1 hK.2.2.2.1 h
  have hF1 : (-2147483648 : Int) ≤ (aopf o a b).toInt := hF.1
  have hF2 : (aopf o a b).toInt ≤ 2147483647 := hF.2
  unfold aoq
  split
  · split
    · rename_i e
      cases c : ileb 0 y.1 with
      | false => exact hF
      | true =>
        rw [ileb_iff] at c
        rw [aev_nil e] at hb
        have := i32_and (x := a) (y := b) (by omega)
        rw [hb] at this
        exact this
    · split
      · rename_i e
        cases c : ileb 0 x.1 with
        | false => exact hF
        | true =>
          rw [ileb_iff] at c
          rw [aev_nil e] at ha
          have := i32_and (x := b) (y := a) (by omega)
          rw [ha, i32_andc] at this
          exact this
      · exact hF
  · have hx := i32_xor a b
    have hF1 : (-2147483648 : Int) ≤ (a ^^^ b).toInt := hF1
    have hF2 : (a ^^^ b).toInt ≤ 2147483647 := hF2
    cases c1 : apr K.2.1 K.2.2.1 (asub (aco 0) x) with
    | true =>
      have i1 := hpr c1
      rw [aev_sub, aev_co] at i1
      cases c2 : apr K.2.1 K.2.2.1 (asub (aco 0) y) with
      | true =>
        have i2 := hpr c2
        rw [aev_sub, aev_co] at i2
        show (0 : Int) ≤ (a ^^^ b).toInt ∧ (a ^^^ b).toInt ≤ 2147483647
        omega
      | false =>
        cases c3 : apr K.2.1 K.2.2.1 (aadd (aco 1) y) with
        | true =>
          have i2 := hpr c3
          rw [aev_add, aev_co] at i2
          show (-2147483648 : Int) ≤ (a ^^^ b).toInt ∧ (a ^^^ b).toInt ≤ -1
          omega
        | false => exact hF
    | false =>
      cases c2 : apr K.2.1 K.2.2.1 (aadd (aco 1) x) && apr K.2.1 K.2.2.1 (asub (aco 0) y) with
      | true =>
        rw [Bool.and_eq_true] at c2
        have i1 := hpr c2.1
        have i2 := hpr c2.2
        rw [aev_add, aev_co] at i1
        rw [aev_sub, aev_co] at i2
        show (-2147483648 : Int) ≤ (a ^^^ b).toInt ∧ (a ^^^ b).toInt ≤ -1
        omega
      | false => exact hF
  · split
    · rename_i e
      rw [aev_nil e] at hb
      cases c0 : ileb 1 y.1 with
      | false => exact hF
      | true =>
        rw [ileb_iff] at c0
        cases c1 : apr K.2.1 K.2.2.1 (asub (aco 0) x) with
        | true =>
          have i1 := hpr c1
          rw [aev_sub, aev_co] at i1
          have hd : (aopf 7 a b).toInt = a.toInt / y.1 := i32_divp hb (by omega) (by omega)
          refine ⟨?_, ?_⟩
          · show (0 : Int) ≤ _
            rw [hd]
            exact Int.ediv_nonneg (by omega) (by omega)
          · show _ ≤ (match ahi K.2.1 x with
              | some h => h / y.1
              | none => .ofNat 2147483647)
            split
            · rename_i h he
              have := ahi_of hK.2.2.1 he
              rw [hd]
              exact Int.ediv_le_ediv (by omega) (by omega)
            · exact hF2
        | false =>
          have hd := i32_divb (x := a) hb (by omega)
          cases c2 : apr K.2.1 K.2.2.1 x with
          | true =>
            have i1 := hpr c2
            refine ⟨hd.1, ?_⟩
            exact hd.2.2 (by omega)
          | false => exact ⟨hd.1, hd.2.1⟩
    · exact hF
  · split
    · rename_i e
      rw [aev_nil e] at hb
      cases c0 : ileb 1 y.1 with
      | false => exact hF
      | true =>
        rw [ileb_iff] at c0
        cases c1 : apr K.2.1 K.2.2.1 (asub (aco 0) x) with
        | true =>
          have i1 := hpr c1
          rw [aev_sub, aev_co] at i1
          show (0 : Int) ≤ (a - a / b * b).toInt ∧ (a - a / b * b).toInt ≤ y.1 - 1
          rw [i32_rem hb (by omega) (by omega)]
          have h1 := Int.emod_nonneg a.toInt (b := y.1) (by omega)
          have h2 := Int.emod_lt_of_pos a.toInt (b := y.1) (by omega)
          omega
        | false =>
          show (1 - y.1 : Int) ≤ (a - a / b * b).toInt ∧ (a - a / b * b).toInt ≤ y.1 - 1
          exact i32_remb hb (by omega)
    · exact hF
  · exact hF
def anl0 (K : aKn) (o : Nat) (x y : aL) : aL × aKn := match aulk K.2.2.2.2.1 o x y with
  | some v => (v, K)
  | none => (aid K.1, (K.1 + 1, (K.1, aoq K o x y) :: K.2.1, K.2.2.1, K.2.2.2.1, ((o, x, y), aid K.1) :: K.2.2.2.2.1, K.2.2.2.2.2))
theorem anl0_of {M : xM} {K : aKn} {ρ : Nat → Int} {o : Nat} {x y : aL} {a b : Int32} (ho : o < 9) (hK : aHK xs L prs M K ρ) (ha : ∀ ρ', agr K.1 ρ ρ' → a.toInt = aev ρ' x) (hb : ∀ ρ', agr K.1 ρ ρ' → b.toInt = aev ρ' y) : aNew xs L prs M K ρ (anl0 K o x y).2 (fun ρ' => (aopf o a b).toInt = aev ρ' (anl0 K o x y).1) := by
  unfold anl0
  split
  · rename_i v e
    refine aNew.same hK (fun ρ' h => ?_)
    have hu := (hK ρ' h).2.2.2.2.2.1 _ (aulk_of e)
    unfold aun1 at hu
    rw [if_neg (show ¬ o = 20 by omega), if_neg (show ¬ o = 21 by omega)] at hu
    exact hu a b (ha ρ' h) (hb ρ' h)
  · obtain ⟨ρ2, h1, h2, h3⟩ := afr_of (q := aoq K o x y) (z := (aopf o a b).toInt) hK (aoq_of (hK ρ (agr_refl _ _)) (ha ρ (agr_refl _ _)) (hb ρ (agr_refl _ _)))
    refine ⟨ρ2, h1, h2, fun ρ' hρ => ?_⟩
    obtain ⟨⟨k1, k2, k3, k4, k5, k6, k7, k8⟩, hv⟩ := h3 ρ' hρ
    have hρ0 : agr K.1 ρ ρ' := agr_trans h1 h2 hρ
    refine ⟨⟨k1, k2, k3, k4, k5, ?_, k7, k8⟩, hv⟩
    intro q hq
    rcases List.mem_cons.mp hq with e | e
    · subst e
      unfold aun1
      rw [if_neg (show ¬ o = 20 by omega), if_neg (show ¬ o = 21 by omega)]
      intro x' y' hx' hy'
      have e1 : x' = a := Int32.toInt_inj.mp (by rw [hx', ha ρ' hρ0])
      have e2 : y' = b := Int32.toInt_inj.mp (by rw [hy', hb ρ' hρ0])
      subst e1; subst e2
      exact hv
    · exact k6 q e
def anl (K : aKn) (o : Nat) (x y : aL) : aL × aKn := match x.2, y.2 with
  | [], [] => (aco (aopf o (Int32.ofInt x.1) (Int32.ofInt y.1)).toInt, K)
  | _, _ => anl0 K o x y
theorem anl_of {M : xM} {K : aKn} {ρ : Nat → Int} {o : Nat} {x y : aL} {a b : Int32} (ho : o < 9) (hK : aHK xs L prs M K ρ) (ha : ∀ ρ', agr K.1 ρ ρ' → a.toInt = aev ρ' x) (hb : ∀ ρ', agr K.1 ρ ρ' → b.toInt = aev ρ' y) : aNew xs L prs M K ρ (anl K o x y).2 (fun ρ' => (aopf o a b).toInt = aev ρ' (anl K o x y).1) := by
  unfold anl
  split
  · rename_i e1 e2
    refine aNew.same hK (fun ρ' h => ?_)
    have h1 := ha ρ' h
    have h2 := hb ρ' h
    rw [aev_nil e1] at h1
    rw [aev_nil e2] at h2
    rw [aev_co, ← h1, ← h2, Int32.ofInt_toInt, Int32.ofInt_toInt]
  · exact anl0_of ho hK ha hb
end AOP
