/-! the tables hold: methods 0 .. 47 -/
theorem xgood_at {y a n pc : Nat} {e : xEn} (h : (List.range n).all (fun i => match xI y (a + i) with
    | none => true
    | some e => xgood y (a + i) e) = true) (h1 : a ≤ pc) (h2 : pc < a + n) (he : xI y pc = some e) : xgood y pc e = true := by
  have q := List.all_eq_true.mp h (pc - a) (List.mem_range.mpr (by omega))
  rw [show a + (pc - a) = pc by omega, he] at q
  exact q
theorem xg_0 : ∀ pc e, xI 0 pc = some e → xgood 0 pc e = true := xgood_of (sz := 66) (fun pc h => by
  show cond (Nat.ble 66 pc) none (xT0 pc) = none
  rw [Nat.ble_eq_true_of_le h]; rfl) (by decide +kernel)
theorem xg_1 : ∀ pc e, xI 1 pc = some e → xgood 1 pc e = true := xgood_of (sz := 44) (fun pc h => by
  show cond (Nat.ble 44 pc) none (xT1 pc) = none
  rw [Nat.ble_eq_true_of_le h]; rfl) (by decide +kernel)
theorem xg_2 : ∀ pc e, xI 2 pc = some e → xgood 2 pc e = true := xgood_of (sz := 86) (fun pc h => by
  show cond (Nat.ble 86 pc) none (xT2 pc) = none
  rw [Nat.ble_eq_true_of_le h]; rfl) (by decide +kernel)
theorem xg_3 : ∀ pc e, xI 3 pc = some e → xgood 3 pc e = true := xgood_of (sz := 96) (fun pc h => by
  show cond (Nat.ble 96 pc) none (xT3 pc) = none
  rw [Nat.ble_eq_true_of_le h]; rfl) (by decide +kernel)
theorem xg_4 : ∀ pc e, xI 4 pc = some e → xgood 4 pc e = true := xgood_of (sz := 27) (fun pc h => by
  show cond (Nat.ble 27 pc) none (xT4 pc) = none
  rw [Nat.ble_eq_true_of_le h]; rfl) (by decide +kernel)
theorem xg_5 : ∀ pc e, xI 5 pc = some e → xgood 5 pc e = true := xgood_of (sz := 25) (fun pc h => by
  show cond (Nat.ble 25 pc) none (xT5 pc) = none
  rw [Nat.ble_eq_true_of_le h]; rfl) (by decide +kernel)
theorem xg_6 : ∀ pc e, xI 6 pc = some e → xgood 6 pc e = true := xgood_of (sz := 99) (fun pc h => by
  show cond (Nat.ble 99 pc) none (xT6 pc) = none
  rw [Nat.ble_eq_true_of_le h]; rfl) (by decide +kernel)
theorem xg_7 : ∀ pc e, xI 7 pc = some e → xgood 7 pc e = true := xgood_of (sz := 34) (fun pc h => by
  show cond (Nat.ble 34 pc) none (xT7 pc) = none
  rw [Nat.ble_eq_true_of_le h]; rfl) (by decide +kernel)
theorem xg_8 : ∀ pc e, xI 8 pc = some e → xgood 8 pc e = true := xgood_of (sz := 12) (fun pc h => by
  show cond (Nat.ble 12 pc) none (xT8 pc) = none
  rw [Nat.ble_eq_true_of_le h]; rfl) (by decide +kernel)
theorem xg_9 : ∀ pc e, xI 9 pc = some e → xgood 9 pc e = true := xgood_of (sz := 15) (fun pc h => by
  show cond (Nat.ble 15 pc) none (xT9 pc) = none
  rw [Nat.ble_eq_true_of_le h]; rfl) (by decide +kernel)
theorem xg_10 : ∀ pc e, xI 10 pc = some e → xgood 10 pc e = true := xgood_of (sz := 22) (fun pc h => by
  show cond (Nat.ble 22 pc) none (xT10 pc) = none
  rw [Nat.ble_eq_true_of_le h]; rfl) (by decide +kernel)
theorem xg_11 : ∀ pc e, xI 11 pc = some e → xgood 11 pc e = true := xgood_of (sz := 20) (fun pc h => by
  show cond (Nat.ble 20 pc) none (xT11 pc) = none
  rw [Nat.ble_eq_true_of_le h]; rfl) (by decide +kernel)
theorem xg_12 : ∀ pc e, xI 12 pc = some e → xgood 12 pc e = true := xgood_of (sz := 33) (fun pc h => by
  show cond (Nat.ble 33 pc) none (xT12 pc) = none
  rw [Nat.ble_eq_true_of_le h]; rfl) (by decide +kernel)
theorem xg_13 : ∀ pc e, xI 13 pc = some e → xgood 13 pc e = true := xgood_of (sz := 27) (fun pc h => by
  show cond (Nat.ble 27 pc) none (xT13 pc) = none
  rw [Nat.ble_eq_true_of_le h]; rfl) (by decide +kernel)
theorem xg_14 : ∀ pc e, xI 14 pc = some e → xgood 14 pc e = true := xgood_of (sz := 42) (fun pc h => by
  show cond (Nat.ble 42 pc) none (xT14 pc) = none
  rw [Nat.ble_eq_true_of_le h]; rfl) (by decide +kernel)
theorem xg_15 : ∀ pc e, xI 15 pc = some e → xgood 15 pc e = true := xgood_of (sz := 52) (fun pc h => by
  show cond (Nat.ble 52 pc) none (xT15 pc) = none
  rw [Nat.ble_eq_true_of_le h]; rfl) (by decide +kernel)
theorem xg_16 : ∀ pc e, xI 16 pc = some e → xgood 16 pc e = true := xgood_of (sz := 45) (fun pc h => by
  show cond (Nat.ble 45 pc) none (xT16 pc) = none
  rw [Nat.ble_eq_true_of_le h]; rfl) (by decide +kernel)
theorem xg_17 : ∀ pc e, xI 17 pc = some e → xgood 17 pc e = true := xgood_of (sz := 12) (fun pc h => by
  show cond (Nat.ble 12 pc) none (xT17 pc) = none
  rw [Nat.ble_eq_true_of_le h]; rfl) (by decide +kernel)
theorem xg_18 : ∀ pc e, xI 18 pc = some e → xgood 18 pc e = true := xgood_of (sz := 15) (fun pc h => by
  show cond (Nat.ble 15 pc) none (xT18 pc) = none
  rw [Nat.ble_eq_true_of_le h]; rfl) (by decide +kernel)
theorem xg_19 : ∀ pc e, xI 19 pc = some e → xgood 19 pc e = true := xgood_of (sz := 42) (fun pc h => by
  show cond (Nat.ble 42 pc) none (xT19 pc) = none
  rw [Nat.ble_eq_true_of_le h]; rfl) (by decide +kernel)
theorem xg_20 : ∀ pc e, xI 20 pc = some e → xgood 20 pc e = true := xgood_of (sz := 12) (fun pc h => by
  show cond (Nat.ble 12 pc) none (xT20 pc) = none
  rw [Nat.ble_eq_true_of_le h]; rfl) (by decide +kernel)
theorem xg_21 : ∀ pc e, xI 21 pc = some e → xgood 21 pc e = true := xgood_of (sz := 12) (fun pc h => by
  show cond (Nat.ble 12 pc) none (xT21 pc) = none
  rw [Nat.ble_eq_true_of_le h]; rfl) (by decide +kernel)
theorem xg_22 : ∀ pc e, xI 22 pc = some e → xgood 22 pc e = true := xgood_of (sz := 61) (fun pc h => by
  show cond (Nat.ble 61 pc) none (xT22 pc) = none
  rw [Nat.ble_eq_true_of_le h]; rfl) (by decide +kernel)
theorem xg_23 : ∀ pc e, xI 23 pc = some e → xgood 23 pc e = true := xgood_of (sz := 50) (fun pc h => by
  show cond (Nat.ble 50 pc) none (xT23 pc) = none
  rw [Nat.ble_eq_true_of_le h]; rfl) (by decide +kernel)
theorem xg_24 : ∀ pc e, xI 24 pc = some e → xgood 24 pc e = true := xgood_of (sz := 12) (fun pc h => by
  show cond (Nat.ble 12 pc) none (xT24 pc) = none
  rw [Nat.ble_eq_true_of_le h]; rfl) (by decide +kernel)
theorem xg_25 : ∀ pc e, xI 25 pc = some e → xgood 25 pc e = true := xgood_of (sz := 13) (fun pc h => by
  show cond (Nat.ble 13 pc) none (xT25 pc) = none
  rw [Nat.ble_eq_true_of_le h]; rfl) (by decide +kernel)
theorem xg_26 : ∀ pc e, xI 26 pc = some e → xgood 26 pc e = true := xgood_of (sz := 15) (fun pc h => by
  show cond (Nat.ble 15 pc) none (xT26 pc) = none
  rw [Nat.ble_eq_true_of_le h]; rfl) (by decide +kernel)
theorem xg_27 : ∀ pc e, xI 27 pc = some e → xgood 27 pc e = true := xgood_of (sz := 28) (fun pc h => by
  show cond (Nat.ble 28 pc) none (xT27 pc) = none
  rw [Nat.ble_eq_true_of_le h]; rfl) (by decide +kernel)
theorem xg_28 : ∀ pc e, xI 28 pc = some e → xgood 28 pc e = true := xgood_of (sz := 64) (fun pc h => by
  show cond (Nat.ble 64 pc) none (xT28 pc) = none
  rw [Nat.ble_eq_true_of_le h]; rfl) (by decide +kernel)
theorem xg_29 : ∀ pc e, xI 29 pc = some e → xgood 29 pc e = true := xgood_of (sz := 11) (fun pc h => by
  show cond (Nat.ble 11 pc) none (xT29 pc) = none
  rw [Nat.ble_eq_true_of_le h]; rfl) (by decide +kernel)
theorem xg_30 : ∀ pc e, xI 30 pc = some e → xgood 30 pc e = true := xgood_of (sz := 6) (fun pc h => by
  show cond (Nat.ble 6 pc) none (xT30 pc) = none
  rw [Nat.ble_eq_true_of_le h]; rfl) (by decide +kernel)
theorem xg_31 : ∀ pc e, xI 31 pc = some e → xgood 31 pc e = true := xgood_of (sz := 10) (fun pc h => by
  show cond (Nat.ble 10 pc) none (xT31 pc) = none
  rw [Nat.ble_eq_true_of_le h]; rfl) (by decide +kernel)
theorem xg_32 : ∀ pc e, xI 32 pc = some e → xgood 32 pc e = true := xgood_of (sz := 10) (fun pc h => by
  show cond (Nat.ble 10 pc) none (xT32 pc) = none
  rw [Nat.ble_eq_true_of_le h]; rfl) (by decide +kernel)
theorem xg_33 : ∀ pc e, xI 33 pc = some e → xgood 33 pc e = true := xgood_of (sz := 10) (fun pc h => by
  show cond (Nat.ble 10 pc) none (xT33 pc) = none
  rw [Nat.ble_eq_true_of_le h]; rfl) (by decide +kernel)
theorem xg_34 : ∀ pc e, xI 34 pc = some e → xgood 34 pc e = true := xgood_of (sz := 10) (fun pc h => by
  show cond (Nat.ble 10 pc) none (xT34 pc) = none
  rw [Nat.ble_eq_true_of_le h]; rfl) (by decide +kernel)
theorem xg_35 : ∀ pc e, xI 35 pc = some e → xgood 35 pc e = true := xgood_of (sz := 34) (fun pc h => by
  show cond (Nat.ble 34 pc) none (xT35 pc) = none
  rw [Nat.ble_eq_true_of_le h]; rfl) (by decide +kernel)
theorem xg_36 : ∀ pc e, xI 36 pc = some e → xgood 36 pc e = true := xgood_of (sz := 12) (fun pc h => by
  show cond (Nat.ble 12 pc) none (xT36 pc) = none
  rw [Nat.ble_eq_true_of_le h]; rfl) (by decide +kernel)
theorem xg_37 : ∀ pc e, xI 37 pc = some e → xgood 37 pc e = true := xgood_of (sz := 15) (fun pc h => by
  show cond (Nat.ble 15 pc) none (xT37 pc) = none
  rw [Nat.ble_eq_true_of_le h]; rfl) (by decide +kernel)
theorem xg_38 : ∀ pc e, xI 38 pc = some e → xgood 38 pc e = true := xgood_of (sz := 12) (fun pc h => by
  show cond (Nat.ble 12 pc) none (xT38 pc) = none
  rw [Nat.ble_eq_true_of_le h]; rfl) (by decide +kernel)
theorem xg_39 : ∀ pc e, xI 39 pc = some e → xgood 39 pc e = true := xgood_of (sz := 53) (fun pc h => by
  show cond (Nat.ble 53 pc) none (xT39 pc) = none
  rw [Nat.ble_eq_true_of_le h]; rfl) (by decide +kernel)
theorem xg_40 : ∀ pc e, xI 40 pc = some e → xgood 40 pc e = true := xgood_of (sz := 52) (fun pc h => by
  show cond (Nat.ble 52 pc) none (xT40 pc) = none
  rw [Nat.ble_eq_true_of_le h]; rfl) (by decide +kernel)
theorem xg_41 : ∀ pc e, xI 41 pc = some e → xgood 41 pc e = true := xgood_of (sz := 29) (fun pc h => by
  show cond (Nat.ble 29 pc) none (xT41 pc) = none
  rw [Nat.ble_eq_true_of_le h]; rfl) (by decide +kernel)
theorem xg_42 : ∀ pc e, xI 42 pc = some e → xgood 42 pc e = true := xgood_of (sz := 36) (fun pc h => by
  show cond (Nat.ble 36 pc) none (xT42 pc) = none
  rw [Nat.ble_eq_true_of_le h]; rfl) (by decide +kernel)
theorem xg_43 : ∀ pc e, xI 43 pc = some e → xgood 43 pc e = true := xgood_of (sz := 72) (fun pc h => by
  show cond (Nat.ble 72 pc) none (xT43 pc) = none
  rw [Nat.ble_eq_true_of_le h]; rfl) (by decide +kernel)
theorem xg_44 : ∀ pc e, xI 44 pc = some e → xgood 44 pc e = true := xgood_of (sz := 74) (fun pc h => by
  show cond (Nat.ble 74 pc) none (xT44 pc) = none
  rw [Nat.ble_eq_true_of_le h]; rfl) (by decide +kernel)
theorem xg_45 : ∀ pc e, xI 45 pc = some e → xgood 45 pc e = true := xgood_of (sz := 15) (fun pc h => by
  show cond (Nat.ble 15 pc) none (xT45 pc) = none
  rw [Nat.ble_eq_true_of_le h]; rfl) (by decide +kernel)
theorem xg_46 : ∀ pc e, xI 46 pc = some e → xgood 46 pc e = true := xgood_of (sz := 130) (fun pc h => by
  show cond (Nat.ble 130 pc) none (xT46 pc) = none
  rw [Nat.ble_eq_true_of_le h]; rfl) (by decide +kernel)
theorem xg_47 : ∀ pc e, xI 47 pc = some e → xgood 47 pc e = true := xgood_of (sz := 65) (fun pc h => by
  show cond (Nat.ble 65 pc) none (xT47 pc) = none
  rw [Nat.ble_eq_true_of_le h]; rfl) (by decide +kernel)
