/-! TEXTS, of the class -/
def k1_ : aKn := (1, [e0], [], [], [], [], [])
/-- a loop that reads signs, one after the other -/
def okR (y hp cp rp : Nat) (pl : Nat → List (Option aV)) (cs : List Int) : Bool := (List.range cs.length).all (fun i => arunG [] [] ([], []) [([(y, cp, pl i, [.inl (aco (cs.getD i 0)), r_ 15])], k1_)] 1 (some (1, 0)) 400 [(y, hp, pl i, [])] k1_ && arunG [] [] ([], []) [([(y, hp, pl (i + 1), [])], k1_)] 1 (some (1, 0)) 400 [(y, cp + 3, pl i, [])] k1_) && (arunG [] [] ([], []) [([(y, rp, pl cs.length, [])], k1_)] 1 (some (1, 0)) 400 [(y, hp, pl cs.length, [])] k1_ && cs.all (fun c => ileb 0 c && ileb c 65535))
section AVX
variable {xs : Nat → Int32} {L : Nat}
theorem lR (hL : L ≤ 2560) {y hp cp rp : Nat} {pl : Nat → List (Option aV)} {cs : List Int} {e : xEn} {len a b w : Nat} (ok : okR y hp cp rp pl cs = true) (hI : xI y cp = some e) (hca : ∀ c, aca e [.inl (aco c), r_ 15] = some (95, [r_ 15, .inl (aco c)], [])) (hI2 : xI y rp = some (.return_, len, a, b, w)) (hr : (xm y).2.2.2.1 = none) {M0 : xM} {Q : xZ → Prop} (hQ : ∀ M', aInv M' → aRk M' → tOk M' → aUnw wT M0 M' → tS M' = txt (tB M0) (tT M0) cs (tS M0) → Q (none, 102, xsh0, M')) : ∀ (n i : Nat) (M : xM) (ρ : Nat → Int) (cfr : List cFr), i + n = cs.length → aInv M → aRk M → tOk M → aUnw wT M0 M → txt (tB M0) (tT M0) (cs.drop i) (tS M) = txt (tB M0) (tT M0) cs (tS M0) → aHS xs L [] M k1_ ρ [(y, hp, pl i, [])] cfr → aGl xs L Q M cfr := by
  unfold okR at ok
  rw [Bool.and_eq_true, Bool.and_eq_true] at ok
  obtain ⟨ok1, ok2, ok3⟩ := ok
  intro n
  induction n with
  | zero =>
    intro i M ρ cfr hi hM hR hk hU hx hS
    have hi : i = cs.length := by omega
    subst hi
    rw [List.drop_length] at hx
    refine arunG_of (ρ0 := ρ) (g := 1) (M0 := M) prs0 hL allc0 (fun r h => aPost_no h) ?_ 400 _ _ ρ M cfr ok2 hS hM (aUnw.refl _ _) (Nat.le_refl _) (agr_refl _ _)
    intro c hc ρ' M' cfr' hS' hM' hU' hag
    have ec := List.mem_singleton.mp hc
    subst ec
    have eM := aUnw_nil hU'
    subst eM
    exact ret_v hI2 hr hS' (hQ M' hM hR hk hU hx)
  | succ n ih =>
    intro i M ρ cfr hi hM hR hk hU hx hS
    have hlt : i < cs.length := by omega
    have hok := List.all_eq_true.mp ok1 i (List.mem_range.mpr hlt)
    rw [Bool.and_eq_true] at hok
    have hci := List.all_eq_true.mp ok3 (cs.getD i 0) (by rw [List.getD_eq_getElem?_getD, List.getElem?_eq_getElem hlt]; exact List.getElem_mem hlt)
    rw [Bool.and_eq_true, ileb_iff, ileb_iff] at hci
    refine arunG_of (ρ0 := ρ) (g := 1) (M0 := M) prs0 hL allc0 (fun r h => aPost_no h) ?_ 400 _ _ ρ M cfr hok.1 hS hM (aUnw.refl _ _) (Nat.le_refl _) (agr_refl _ _)
    intro c hc ρ' M' cfr' hS' hM' hU' hag
    have ec := List.mem_singleton.mp hc
    subst ec
    have eM := aUnw_nil hU'
    subst eM
    refine call_kv wT hI (hca _) rfl hS' (fun asc R hasc hRR => ?_)
    obtain ⟨v0, vs, e1, h0, hvs⟩ := astkC hasc
    obtain ⟨v1, vs1, e2, h1, hvs1⟩ := astkC hvs
    have e0' := aval_ref h0
    obtain ⟨x, a1, d1⟩ := avalI h1
    have e3 := astkN hvs1
    subst e0'; subst a1; subst e3; subst e2; subst e1
    rw [aev_co] at d1
    refine f95_ hL (by omega) M' R hM hR hk (fun v M2 hM2 hR2 hk2 hU2 hv hs2 => ?_)
    subst hv
    obtain ⟨cfr2, hS2, go2⟩ := hRR M2 hR2 hU2
    refine go2 ?_
    refine arunG_of (ρ0 := ρ') (g := 1) (M0 := M2) prs0 hL allc0 (fun r h => aPost_no h) ?_ 400 _ _ ρ' M2 cfr2 hok.2 hS2 hM2 (aUnw.refl _ _) (Nat.le_refl _) (agr_refl _ _)
    intro c hc ρ4 M4 cfr4 hS4 hM4 hU4 hag4
    have ec := List.mem_singleton.mp hc
    subst ec
    have eM := aUnw_nil hU4
    subst eM
    refine ih (i + 1) M4 ρ4 cfr4 (by omega) hM2 hR2 hk2 (hU.trans hU2) ?_ hS4
    rw [hs2, ← hx, List.drop_eq_getElem_cons hlt, d1, wT_B hU, wT_T hU]
    show _ = txt (tB M0) (tT M0) (cs.drop (i + 1)) (sgn (tB M0) (tT M0) cs[i] (tS M'))
    rw [List.getD_eq_getElem?_getD, List.getElem?_eq_getElem hlt]
    rfl
def p96 (j : Nat) (i : Nat) : List (Option aV) := [R_ 15, R_ j, some (.inl (aco i))]
def s96 (j : Nat) (cs : List Int) : Bool := arunG [] [] ([], []) [([(96, 2, p96 j 0, [])], k1_)] 1 (some (1, 0)) 100 [(96, 0, [R_ 15, R_ j, none], [])] k1_ && okR 96 2 16 25 (p96 j) cs
theorem f96_ (hL : L ≤ 2560) {j : Nat} {cs : List Int} (ok : s96 j cs = true) : cOp xs L 96 [.ref 15, .ref j] (fun b T s => txt b T cs s) (fun v => v = none) := by
  unfold s96 at ok
  rw [Bool.and_eq_true] at ok
  intro M Q hM hR hk hQ
  obtain ⟨ρ1, hS0⟩ := aentry (xs := xs) (c := (96, [.inr (.inr 15), .inr (.inr j)], [], none, wT)) (as := [.ref 15, .ref j]) hL hR ⟨rfl, rfl, trivial⟩
  show aGl xs L Q M [(96, 0, xent 96 [.ref 15, .ref j], [])]
  refine arunG_of (ρ0 := ρ1) (g := 1) (M0 := M) prs0 hL allc0 (fun r h => aPost_no h) ?_ 100 _ _ ρ1 M _ ok.1 hS0 hM (aUnw.refl _ _) (Nat.le_refl _) (agr_refl _ _)
  intro c hc ρ' M' cfr' hS' hM' hU' hag
  have ec := List.mem_singleton.mp hc
  subst ec
  have eM := aUnw_nil hU'
  subst eM
  exact lR hL ok.2 rfl (fun c => rfl) rfl rfl (fun M2 a1 a2 a3 a4 a5 => hQ none M2 a1 a2 a3 a4 rfl a5) cs.length 0 M' ρ' cfr' (Nat.zero_add _) hM hR hk (aUnw.refl _ _) rfl hS'
def p99 (j s : Nat) (i : Nat) : List (Option aV) := [R_ 15, R_ j, some (.inl (aco s)), some (.inl (aco (s + i)))]
def s99 (j s : Nat) (cs : List Int) : Bool := arunG [] [] ([], []) [([(99, 2, p99 j s 0, [])], k1_)] 1 (some (1, 0)) 100 [(99, 0, [R_ 15, R_ j, some (.inl (aco s)), none], [])] k1_ && okR 99 2 26 35 (p99 j s) cs
theorem f99_ (hL : L ≤ 2560) {j s : Nat} {cs : List Int} (ok : s99 j s cs = true) {x : Int32} (hx : x.toInt = (s : Int)) : cOp xs L 99 [.ref 15, .ref j, .int x] (fun b T s => txt b T cs s) (fun v => v = none) := by
  unfold s99 at ok
  rw [Bool.and_eq_true] at ok
  intro M Q hM hR hk hQ
  have hS0 : aHS xs L [] M k1_ (fun _ => (L : Int)) [(99, 0, [R_ 15, R_ j, some (.inl (aco s)), none], [])] [(99, 0, xent 99 [.ref 15, .ref j, .int x], [])] := by
    intro ρ' h
    have h0 : ρ' 0 = (L : Int) := h 0 (by decide)
    refine ⟨⟨by decide, h0, fun t ht => ?_, fun f hf => (by cases hf), fun q hq => (by cases hq), fun q hq => (by cases hq), fun j pr hj => (by cases hj), fun j r hj i => Or.inl (hR j r hj i)⟩, ⟨rfl, rfl, ⟨rfl, rfl, ?_, trivial, trivial⟩, trivial⟩, trivial⟩
    · have et := List.mem_singleton.mp ht
      subst et
      show (0 : Int) ≤ ρ' 0 ∧ ρ' 0 ≤ 2560
      omega
    · show x.toInt = aev ρ' (aco s)
      rw [aev_co]
      exact hx
  show aGl xs L Q M [(99, 0, xent 99 [.ref 15, .ref j, .int x], [])]
  refine arunG_of (ρ0 := fun _ => (L : Int)) (g := 1) (M0 := M) prs0 hL allc0 (fun r h => aPost_no h) ?_ 100 _ _ _ M _ ok.1 hS0 hM (aUnw.refl _ _) (Nat.le_refl _) (agr_refl _ _)
  intro c hc ρ' M' cfr' hS' hM' hU' hag
  have ec := List.mem_singleton.mp hc
  subst ec
  have eM := aUnw_nil hU'
  subst eM
  exact lR hL ok.2 rfl (fun c => rfl) rfl rfl (fun M2 a1 a2 a3 a4 a5 => hQ none M2 a1 a2 a3 a4 rfl a5) cs.length 0 M' ρ' cfr' (Nat.zero_add _) hM hR hk (aUnw.refl _ _) rfl hS'
end AVX
theorem t96_1001 : s96 1001 [32, 114, 97, 110, 107, 32] = true := by decide +kernel
theorem t96_1002 : s96 1002 [32, 110, 101, 101, 100, 32] = true := by decide +kernel
theorem t96_1003 : s96 1003 [32, 111, 102, 32] = true := by decide +kernel
theorem t96_1004 : s96 1004 [32, 105, 102, 32] = true := by decide +kernel
theorem t96_1005 : s96 1005 [32, 97, 110, 100, 32] = true := by decide +kernel
theorem t99_1000_0 : s99 1000 0 [112, 108, 97, 110, 107] = true := by decide +kernel
theorem t99_1000_1 : s99 1000 6 [115, 101, 97, 116] = true := by decide +kernel
theorem t99_1000_2 : s99 1000 11 [97, 112, 112, 101, 97, 108] = true := by decide +kernel
theorem t99_1000_3 : s99 1000 18 [110, 97, 109, 101] = true := by decide +kernel
theorem t99_1000_4 : s99 1000 23 [99, 108, 111, 115, 101] = true := by decide +kernel
theorem t99_1006_0 : s99 1006 0 [98, 97, 108, 108, 111, 116, 115] = true := by decide +kernel
theorem t99_1006_1 : s99 1006 8 [115, 101, 97, 116, 115] = true := by decide +kernel
theorem t99_1006_2 : s99 1006 14 [112, 108, 97, 110, 107, 115] = true := by decide +kernel
theorem t99_1006_3 : s99 1006 21 [100, 101, 112, 116, 104] = true := by decide +kernel
theorem t99_1007_0 : s99 1007 0 [61] = true := by decide +kernel
theorem t99_1007_1 : s99 1007 2 [60] = true := by decide +kernel
theorem t99_1007_2 : s99 1007 4 [62] = true := by decide +kernel
