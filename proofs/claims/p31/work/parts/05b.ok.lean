/-! the tables hold: methods 48 .. 96 -/
theorem xg_48 : ∀ pc e, xI 48 pc = some e → xgood 48 pc e = true := xgood_of (sz := 12) (fun pc h => by
  show cond (Nat.ble 12 pc) none (xT48 pc) = none
  rw [Nat.ble_eq_true_of_le h]; rfl) (by decide +kernel)
theorem xg_49 : ∀ pc e, xI 49 pc = some e → xgood 49 pc e = true := xgood_of (sz := 40) (fun pc h => by
  show cond (Nat.ble 40 pc) none (xT49 pc) = none
  rw [Nat.ble_eq_true_of_le h]; rfl) (by decide +kernel)
theorem xg_50 : ∀ pc e, xI 50 pc = some e → xgood 50 pc e = true := xgood_of (sz := 44) (fun pc h => by
  show cond (Nat.ble 44 pc) none (xT50 pc) = none
  rw [Nat.ble_eq_true_of_le h]; rfl) (by decide +kernel)
theorem xg_51 : ∀ pc e, xI 51 pc = some e → xgood 51 pc e = true := xgood_of (sz := 80) (fun pc h => by
  show cond (Nat.ble 80 pc) none (xT51 pc) = none
  rw [Nat.ble_eq_true_of_le h]; rfl) (by decide +kernel)
theorem xg_52 : ∀ pc e, xI 52 pc = some e → xgood 52 pc e = true := xgood_of (sz := 16) (fun pc h => by
  show cond (Nat.ble 16 pc) none (xT52 pc) = none
  rw [Nat.ble_eq_true_of_le h]; rfl) (by decide +kernel)
theorem xg_53 : ∀ pc e, xI 53 pc = some e → xgood 53 pc e = true := xgood_of (sz := 16) (fun pc h => by
  show cond (Nat.ble 16 pc) none (xT53 pc) = none
  rw [Nat.ble_eq_true_of_le h]; rfl) (by decide +kernel)
theorem xg_54 : ∀ pc e, xI 54 pc = some e → xgood 54 pc e = true := xgood_of (sz := 16) (fun pc h => by
  show cond (Nat.ble 16 pc) none (xT54 pc) = none
  rw [Nat.ble_eq_true_of_le h]; rfl) (by decide +kernel)
theorem xg_55 : ∀ pc e, xI 55 pc = some e → xgood 55 pc e = true := xgood_of (sz := 34) (fun pc h => by
  show cond (Nat.ble 34 pc) none (xT55 pc) = none
  rw [Nat.ble_eq_true_of_le h]; rfl) (by decide +kernel)
theorem xg_56 : ∀ pc e, xI 56 pc = some e → xgood 56 pc e = true := xgood_of (sz := 54) (fun pc h => by
  show cond (Nat.ble 54 pc) none (xT56 pc) = none
  rw [Nat.ble_eq_true_of_le h]; rfl) (by decide +kernel)
theorem xg_57 : ∀ pc e, xI 57 pc = some e → xgood 57 pc e = true := xgood_of (sz := 56) (fun pc h => by
  show cond (Nat.ble 56 pc) none (xT57 pc) = none
  rw [Nat.ble_eq_true_of_le h]; rfl) (by decide +kernel)
theorem xg_58 : ∀ pc e, xI 58 pc = some e → xgood 58 pc e = true := xgood_of (sz := 11) (fun pc h => by
  show cond (Nat.ble 11 pc) none (xT58 pc) = none
  rw [Nat.ble_eq_true_of_le h]; rfl) (by decide +kernel)
theorem xg_59 : ∀ pc e, xI 59 pc = some e → xgood 59 pc e = true := xgood_of (sz := 10) (fun pc h => by
  show cond (Nat.ble 10 pc) none (xT59 pc) = none
  rw [Nat.ble_eq_true_of_le h]; rfl) (by decide +kernel)
theorem xg_60 : ∀ pc e, xI 60 pc = some e → xgood 60 pc e = true := xgood_of (sz := 10) (fun pc h => by
  show cond (Nat.ble 10 pc) none (xT60 pc) = none
  rw [Nat.ble_eq_true_of_le h]; rfl) (by decide +kernel)
theorem xg_61 : ∀ pc e, xI 61 pc = some e → xgood 61 pc e = true := xgood_of (sz := 10) (fun pc h => by
  show cond (Nat.ble 10 pc) none (xT61 pc) = none
  rw [Nat.ble_eq_true_of_le h]; rfl) (by decide +kernel)
theorem xg_62 : ∀ pc e, xI 62 pc = some e → xgood 62 pc e = true := xgood_of (sz := 83) (fun pc h => by
  show cond (Nat.ble 83 pc) none (xT62 pc) = none
  rw [Nat.ble_eq_true_of_le h]; rfl) (by decide +kernel)
theorem xg_63 : ∀ pc e, xI 63 pc = some e → xgood 63 pc e = true := xgood_of (sz := 7) (fun pc h => by
  show cond (Nat.ble 7 pc) none (xT63 pc) = none
  rw [Nat.ble_eq_true_of_le h]; rfl) (by decide +kernel)
theorem xg_64 : ∀ pc e, xI 64 pc = some e → xgood 64 pc e = true := xgood_of (sz := 7) (fun pc h => by
  show cond (Nat.ble 7 pc) none (xT64 pc) = none
  rw [Nat.ble_eq_true_of_le h]; rfl) (by decide +kernel)
theorem xg_65 : ∀ pc e, xI 65 pc = some e → xgood 65 pc e = true := xgood_of (sz := 12) (fun pc h => by
  show cond (Nat.ble 12 pc) none (xT65 pc) = none
  rw [Nat.ble_eq_true_of_le h]; rfl) (by decide +kernel)
theorem xg_66 : ∀ pc e, xI 66 pc = some e → xgood 66 pc e = true := xgood_of (sz := 15) (fun pc h => by
  show cond (Nat.ble 15 pc) none (xT66 pc) = none
  rw [Nat.ble_eq_true_of_le h]; rfl) (by decide +kernel)
theorem xg_67 : ∀ pc e, xI 67 pc = some e → xgood 67 pc e = true := xgood_of (sz := 24) (fun pc h => by
  show cond (Nat.ble 24 pc) none (xT67 pc) = none
  rw [Nat.ble_eq_true_of_le h]; rfl) (by decide +kernel)
theorem xg_68 : ∀ pc e, xI 68 pc = some e → xgood 68 pc e = true := xgood_of (sz := 108) (fun pc h => by
  show cond (Nat.ble 108 pc) none (xT68 pc) = none
  rw [Nat.ble_eq_true_of_le h]; rfl) (by decide +kernel)
theorem xg_69 : ∀ pc e, xI 69 pc = some e → xgood 69 pc e = true := xgood_of (sz := 37) (fun pc h => by
  show cond (Nat.ble 37 pc) none (xT69 pc) = none
  rw [Nat.ble_eq_true_of_le h]; rfl) (by decide +kernel)
theorem xg_70 : ∀ pc e, xI 70 pc = some e → xgood 70 pc e = true := xgood_of (sz := 29) (fun pc h => by
  show cond (Nat.ble 29 pc) none (xT70 pc) = none
  rw [Nat.ble_eq_true_of_le h]; rfl) (by decide +kernel)
theorem xg_71 : ∀ pc e, xI 71 pc = some e → xgood 71 pc e = true := xgood_of (sz := 55) (fun pc h => by
  show cond (Nat.ble 55 pc) none (xT71 pc) = none
  rw [Nat.ble_eq_true_of_le h]; rfl) (by decide +kernel)
theorem xg_72 : ∀ pc e, xI 72 pc = some e → xgood 72 pc e = true := xgood_of (sz := 27) (fun pc h => by
  show cond (Nat.ble 27 pc) none (xT72 pc) = none
  rw [Nat.ble_eq_true_of_le h]; rfl) (by decide +kernel)
theorem xg_73 : ∀ pc e, xI 73 pc = some e → xgood 73 pc e = true := xgood_of (sz := 6) (fun pc h => by
  show cond (Nat.ble 6 pc) none (xT73 pc) = none
  rw [Nat.ble_eq_true_of_le h]; rfl) (by decide +kernel)
theorem xg_74 : ∀ pc e, xI 74 pc = some e → xgood 74 pc e = true := xgood_of (sz := 37) (fun pc h => by
  show cond (Nat.ble 37 pc) none (xT74 pc) = none
  rw [Nat.ble_eq_true_of_le h]; rfl) (by decide +kernel)
theorem xg_75 : ∀ pc e, xI 75 pc = some e → xgood 75 pc e = true := xgood_of (sz := 15) (fun pc h => by
  show cond (Nat.ble 15 pc) none (xT75 pc) = none
  rw [Nat.ble_eq_true_of_le h]; rfl) (by decide +kernel)
theorem xg_76 : ∀ pc e, xI 76 pc = some e → xgood 76 pc e = true := xgood_of (sz := 84) (fun pc h => by
  show cond (Nat.ble 84 pc) none (xT76 pc) = none
  rw [Nat.ble_eq_true_of_le h]; rfl) (by decide +kernel)
theorem xg_77 : ∀ pc e, xI 77 pc = some e → xgood 77 pc e = true := xgood_of (sz := 55) (fun pc h => by
  show cond (Nat.ble 55 pc) none (xT77 pc) = none
  rw [Nat.ble_eq_true_of_le h]; rfl) (by decide +kernel)
theorem xg_78 : ∀ pc e, xI 78 pc = some e → xgood 78 pc e = true := xgood_of (sz := 107) (fun pc h => by
  show cond (Nat.ble 107 pc) none (xT78 pc) = none
  rw [Nat.ble_eq_true_of_le h]; rfl) (by decide +kernel)
theorem xg_79 : ∀ pc e, xI 79 pc = some e → xgood 79 pc e = true := xgood_of (sz := 15) (fun pc h => by
  show cond (Nat.ble 15 pc) none (xT79 pc) = none
  rw [Nat.ble_eq_true_of_le h]; rfl) (by decide +kernel)
theorem xg_80 : ∀ pc e, xI 80 pc = some e → xgood 80 pc e = true := xgood_of (sz := 152) (fun pc h => by
  show cond (Nat.ble 152 pc) none (xT80 pc) = none
  rw [Nat.ble_eq_true_of_le h]; rfl) (by decide +kernel)
theorem xg_81 : ∀ pc e, xI 81 pc = some e → xgood 81 pc e = true := xgood_of (sz := 61) (fun pc h => by
  show cond (Nat.ble 61 pc) none (xT81 pc) = none
  rw [Nat.ble_eq_true_of_le h]; rfl) (by decide +kernel)
theorem xg_82 : ∀ pc e, xI 82 pc = some e → xgood 82 pc e = true := xgood_of (sz := 33) (fun pc h => by
  show cond (Nat.ble 33 pc) none (xT82 pc) = none
  rw [Nat.ble_eq_true_of_le h]; rfl) (by decide +kernel)
theorem xg_83 : ∀ pc e, xI 83 pc = some e → xgood 83 pc e = true := xgood_of (sz := 9) (fun pc h => by
  show cond (Nat.ble 9 pc) none (xT83 pc) = none
  rw [Nat.ble_eq_true_of_le h]; rfl) (by decide +kernel)
theorem xg_84 : ∀ pc e, xI 84 pc = some e → xgood 84 pc e = true := xgood_of (sz := 42) (fun pc h => by
  show cond (Nat.ble 42 pc) none (xT84 pc) = none
  rw [Nat.ble_eq_true_of_le h]; rfl) (by decide +kernel)
theorem xg_85 : ∀ pc e, xI 85 pc = some e → xgood 85 pc e = true := xgood_of (sz := 46) (fun pc h => by
  show cond (Nat.ble 46 pc) none (xT85 pc) = none
  rw [Nat.ble_eq_true_of_le h]; rfl) (by decide +kernel)
theorem xg_86 : ∀ pc e, xI 86 pc = some e → xgood 86 pc e = true := xgood_of (sz := 28) (fun pc h => by
  show cond (Nat.ble 28 pc) none (xT86 pc) = none
  rw [Nat.ble_eq_true_of_le h]; rfl) (by decide +kernel)
theorem xg_87 : ∀ pc e, xI 87 pc = some e → xgood 87 pc e = true := xgood_of (sz := 17) (fun pc h => by
  show cond (Nat.ble 17 pc) none (xT87 pc) = none
  rw [Nat.ble_eq_true_of_le h]; rfl) (by decide +kernel)
theorem xg_88 : ∀ pc e, xI 88 pc = some e → xgood 88 pc e = true := xgood_of (sz := 52) (fun pc h => by
  show cond (Nat.ble 52 pc) none (xT88 pc) = none
  rw [Nat.ble_eq_true_of_le h]; rfl) (by decide +kernel)
theorem xg_89 : ∀ pc e, xI 89 pc = some e → xgood 89 pc e = true := xgood_of (sz := 6) (fun pc h => by
  show cond (Nat.ble 6 pc) none (xT89 pc) = none
  rw [Nat.ble_eq_true_of_le h]; rfl) (by decide +kernel)
theorem xg_90 : ∀ pc e, xI 90 pc = some e → xgood 90 pc e = true := xgood_of (sz := 11) (fun pc h => by
  show cond (Nat.ble 11 pc) none (xT90 pc) = none
  rw [Nat.ble_eq_true_of_le h]; rfl) (by decide +kernel)
theorem xg_91 : ∀ pc e, xI 91 pc = some e → xgood 91 pc e = true := xgood_of (sz := 5) (fun pc h => by
  show cond (Nat.ble 5 pc) none (xT91 pc) = none
  rw [Nat.ble_eq_true_of_le h]; rfl) (by decide +kernel)
theorem xg_92 : ∀ pc e, xI 92 pc = some e → xgood 92 pc e = true := xgood_of (sz := 24) (fun pc h => by
  show cond (Nat.ble 24 pc) none (xT92 pc) = none
  rw [Nat.ble_eq_true_of_le h]; rfl) (by decide +kernel)
theorem xg_93 : ∀ pc e, xI 93 pc = some e → xgood 93 pc e = true := xgood_of (sz := 24) (fun pc h => by
  show cond (Nat.ble 24 pc) none (xT93 pc) = none
  rw [Nat.ble_eq_true_of_le h]; rfl) (by decide +kernel)
theorem xg_94 : ∀ pc e, xI 94 pc = some e → xgood 94 pc e = true := xgood_of (sz := 32) (fun pc h => by
  show cond (Nat.ble 32 pc) none (xT94 pc) = none
  rw [Nat.ble_eq_true_of_le h]; rfl) (by decide +kernel)
theorem xg_95 : ∀ pc e, xI 95 pc = some e → xgood 95 pc e = true := xgood_of (sz := 27) (fun pc h => by
  show cond (Nat.ble 27 pc) none (xT95 pc) = none
  rw [Nat.ble_eq_true_of_le h]; rfl) (by decide +kernel)
theorem xg_96 : ∀ pc e, xI 96 pc = some e → xgood 96 pc e = true := xgood_of (sz := 26) (fun pc h => by
  show cond (Nat.ble 26 pc) none (xT96 pc) = none
  rw [Nat.ble_eq_true_of_le h]; rfl) (by decide +kernel)
