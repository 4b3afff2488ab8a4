/-! the tables hold: methods 97 .. 135 -/
theorem xg_97 : ∀ pc e, xI 97 pc = some e → xgood 97 pc e = true := xgood_of (sz := 77) (fun pc h => by
  show cond (Nat.ble 77 pc) none (xT97 pc) = none
  rw [Nat.ble_eq_true_of_le h]; rfl) (by decide +kernel)
theorem xg_98 : ∀ pc e, xI 98 pc = some e → xgood 98 pc e = true := xgood_of (sz := 22) (fun pc h => by
  show cond (Nat.ble 22 pc) none (xT98 pc) = none
  rw [Nat.ble_eq_true_of_le h]; rfl) (by decide +kernel)
theorem xg_99 : ∀ pc e, xI 99 pc = some e → xgood 99 pc e = true := xgood_of (sz := 36) (fun pc h => by
  show cond (Nat.ble 36 pc) none (xT99 pc) = none
  rw [Nat.ble_eq_true_of_le h]; rfl) (by decide +kernel)
theorem xg_100 : ∀ pc e, xI 100 pc = some e → xgood 100 pc e = true := xgood_of (sz := 37) (fun pc h => by
  show cond (Nat.ble 37 pc) none (xT100 pc) = none
  rw [Nat.ble_eq_true_of_le h]; rfl) (by decide +kernel)
theorem xg_101 : ∀ pc e, xI 101 pc = some e → xgood 101 pc e = true := xgood_of (sz := 46) (fun pc h => by
  show cond (Nat.ble 46 pc) none (xT101 pc) = none
  rw [Nat.ble_eq_true_of_le h]; rfl) (by decide +kernel)
theorem xg_102 : ∀ pc e, xI 102 pc = some e → xgood 102 pc e = true := xgood_of (sz := 121) (fun pc h => by
  show cond (Nat.ble 121 pc) none (xT102 pc) = none
  rw [Nat.ble_eq_true_of_le h]; rfl) (by decide +kernel)
theorem xg_103 : ∀ pc e, xI 103 pc = some e → xgood 103 pc e = true := xgood_of (sz := 77) (fun pc h => by
  show cond (Nat.ble 77 pc) none (xT103 pc) = none
  rw [Nat.ble_eq_true_of_le h]; rfl) (by decide +kernel)
theorem xg_104 : ∀ pc e, xI 104 pc = some e → xgood 104 pc e = true := xgood_of (sz := 58) (fun pc h => by
  show cond (Nat.ble 58 pc) none (xT104 pc) = none
  rw [Nat.ble_eq_true_of_le h]; rfl) (by decide +kernel)
theorem xg_105 : ∀ pc e, xI 105 pc = some e → xgood 105 pc e = true := xgood_of (sz := 27) (fun pc h => by
  show cond (Nat.ble 27 pc) none (xT105 pc) = none
  rw [Nat.ble_eq_true_of_le h]; rfl) (by decide +kernel)
theorem xg_106 : ∀ pc e, xI 106 pc = some e → xgood 106 pc e = true := xgood_of (sz := 80) (fun pc h => by
  show cond (Nat.ble 80 pc) none (xT106 pc) = none
  rw [Nat.ble_eq_true_of_le h]; rfl) (by decide +kernel)
theorem xg_107 : ∀ pc e, xI 107 pc = some e → xgood 107 pc e = true := xgood_of (sz := 40) (fun pc h => by
  show cond (Nat.ble 40 pc) none (xT107 pc) = none
  rw [Nat.ble_eq_true_of_le h]; rfl) (by decide +kernel)
theorem xg_108 : ∀ pc e, xI 108 pc = some e → xgood 108 pc e = true := xgood_of (sz := 47) (fun pc h => by
  show cond (Nat.ble 47 pc) none (xT108 pc) = none
  rw [Nat.ble_eq_true_of_le h]; rfl) (by decide +kernel)
theorem xg_109 : ∀ pc e, xI 109 pc = some e → xgood 109 pc e = true := xgood_of (sz := 28) (fun pc h => by
  show cond (Nat.ble 28 pc) none (xT109 pc) = none
  rw [Nat.ble_eq_true_of_le h]; rfl) (by decide +kernel)
theorem xg_110 : ∀ pc e, xI 110 pc = some e → xgood 110 pc e = true := xgood_of (sz := 71) (fun pc h => by
  show cond (Nat.ble 71 pc) none (xT110 pc) = none
  rw [Nat.ble_eq_true_of_le h]; rfl) (by decide +kernel)
theorem xg_111 : ∀ pc e, xI 111 pc = some e → xgood 111 pc e = true := xgood_of (sz := 151) (fun pc h => by
  show cond (Nat.ble 151 pc) none (xT111 pc) = none
  rw [Nat.ble_eq_true_of_le h]; rfl) (by decide +kernel)
theorem xg_112 : ∀ pc e, xI 112 pc = some e → xgood 112 pc e = true := xgood_of (sz := 39) (fun pc h => by
  show cond (Nat.ble 39 pc) none (xT112 pc) = none
  rw [Nat.ble_eq_true_of_le h]; rfl) (by decide +kernel)
theorem xg_113 : ∀ pc e, xI 113 pc = some e → xgood 113 pc e = true := xgood_of (sz := 57) (fun pc h => by
  show cond (Nat.ble 57 pc) none (xT113 pc) = none
  rw [Nat.ble_eq_true_of_le h]; rfl) (by decide +kernel)
theorem xg_114 : ∀ pc e, xI 114 pc = some e → xgood 114 pc e = true := xgood_of (sz := 26) (fun pc h => by
  show cond (Nat.ble 26 pc) none (xT114 pc) = none
  rw [Nat.ble_eq_true_of_le h]; rfl) (by decide +kernel)
theorem xg_115 : ∀ pc e, xI 115 pc = some e → xgood 115 pc e = true := xgood_of (sz := 110) (fun pc h => by
  show cond (Nat.ble 110 pc) none (xT115 pc) = none
  rw [Nat.ble_eq_true_of_le h]; rfl) (by decide +kernel)
theorem xg_116 : ∀ pc e, xI 116 pc = some e → xgood 116 pc e = true := xgood_of (sz := 94) (fun pc h => by
  show cond (Nat.ble 94 pc) none (xT116 pc) = none
  rw [Nat.ble_eq_true_of_le h]; rfl) (by decide +kernel)
theorem xg_117 : ∀ pc e, xI 117 pc = some e → xgood 117 pc e = true := xgood_of (sz := 100) (fun pc h => by
  show cond (Nat.ble 100 pc) none (xT117 pc) = none
  rw [Nat.ble_eq_true_of_le h]; rfl) (by decide +kernel)
theorem xg_118 : ∀ pc e, xI 118 pc = some e → xgood 118 pc e = true := xgood_of (sz := 35) (fun pc h => by
  show cond (Nat.ble 35 pc) none (xT118 pc) = none
  rw [Nat.ble_eq_true_of_le h]; rfl) (by decide +kernel)
theorem xg_119 : ∀ pc e, xI 119 pc = some e → xgood 119 pc e = true := xgood_of (sz := 36) (fun pc h => by
  show cond (Nat.ble 36 pc) none (xT119 pc) = none
  rw [Nat.ble_eq_true_of_le h]; rfl) (by decide +kernel)
theorem xg_120 : ∀ pc e, xI 120 pc = some e → xgood 120 pc e = true := xgood_of (sz := 34) (fun pc h => by
  show cond (Nat.ble 34 pc) none (xT120 pc) = none
  rw [Nat.ble_eq_true_of_le h]; rfl) (by decide +kernel)
theorem xg_121 : ∀ pc e, xI 121 pc = some e → xgood 121 pc e = true := xgood_of (sz := 21) (fun pc h => by
  show cond (Nat.ble 21 pc) none (xT121 pc) = none
  rw [Nat.ble_eq_true_of_le h]; rfl) (by decide +kernel)
theorem xg_122 : ∀ pc e, xI 122 pc = some e → xgood 122 pc e = true := xgood_of (sz := 24) (fun pc h => by
  show cond (Nat.ble 24 pc) none (xT122 pc) = none
  rw [Nat.ble_eq_true_of_le h]; rfl) (by decide +kernel)
theorem xg_123 : ∀ pc e, xI 123 pc = some e → xgood 123 pc e = true := xgood_of (sz := 32) (fun pc h => by
  show cond (Nat.ble 32 pc) none (xT123 pc) = none
  rw [Nat.ble_eq_true_of_le h]; rfl) (by decide +kernel)
theorem xg_124 : ∀ pc e, xI 124 pc = some e → xgood 124 pc e = true := xgood_of (sz := 24) (fun pc h => by
  show cond (Nat.ble 24 pc) none (xT124 pc) = none
  rw [Nat.ble_eq_true_of_le h]; rfl) (by decide +kernel)
theorem xg_125 : ∀ pc e, xI 125 pc = some e → xgood 125 pc e = true := xgood_of (sz := 37) (fun pc h => by
  show cond (Nat.ble 37 pc) none (xT125 pc) = none
  rw [Nat.ble_eq_true_of_le h]; rfl) (by decide +kernel)
theorem xg_126 : ∀ pc e, xI 126 pc = some e → xgood 126 pc e = true := xgood_of (sz := 37) (fun pc h => by
  show cond (Nat.ble 37 pc) none (xT126 pc) = none
  rw [Nat.ble_eq_true_of_le h]; rfl) (by decide +kernel)
theorem xg_127 : ∀ pc e, xI 127 pc = some e → xgood 127 pc e = true := xgood_of (sz := 65) (fun pc h => by
  show cond (Nat.ble 65 pc) none (xT127 pc) = none
  rw [Nat.ble_eq_true_of_le h]; rfl) (by decide +kernel)
theorem xg_128 : ∀ pc e, xI 128 pc = some e → xgood 128 pc e = true := xgood_of (sz := 64) (fun pc h => by
  show cond (Nat.ble 64 pc) none (xT128 pc) = none
  rw [Nat.ble_eq_true_of_le h]; rfl) (by decide +kernel)
theorem xg_129 : ∀ pc e, xI 129 pc = some e → xgood 129 pc e = true := xgood_of (sz := 35) (fun pc h => by
  show cond (Nat.ble 35 pc) none (xT129 pc) = none
  rw [Nat.ble_eq_true_of_le h]; rfl) (by decide +kernel)
theorem xg_130 : ∀ pc e, xI 130 pc = some e → xgood 130 pc e = true := xgood_of (sz := 23) (fun pc h => by
  show cond (Nat.ble 23 pc) none (xT130 pc) = none
  rw [Nat.ble_eq_true_of_le h]; rfl) (by decide +kernel)
theorem xg_131 : ∀ pc e, xI 131 pc = some e → xgood 131 pc e = true := xgood_of (sz := 74) (fun pc h => by
  show cond (Nat.ble 74 pc) none (xT131 pc) = none
  rw [Nat.ble_eq_true_of_le h]; rfl) (by decide +kernel)
theorem xg_132 : ∀ pc e, xI 132 pc = some e → xgood 132 pc e = true := xgood_of (sz := 65) (fun pc h => by
  show cond (Nat.ble 65 pc) none (xT132 pc) = none
  rw [Nat.ble_eq_true_of_le h]; rfl) (by decide +kernel)
theorem xg_133 : ∀ pc e, xI 133 pc = some e → xgood 133 pc e = true := xgood_of (sz := 9) (fun pc h => by
  show cond (Nat.ble 9 pc) none (xT133 pc) = none
  rw [Nat.ble_eq_true_of_le h]; rfl) (by decide +kernel)
theorem xg_134 : ∀ pc e, xI 134 pc = some e → xgood 134 pc e = true := xgood_of (sz := 25) (fun pc h => by
  show cond (Nat.ble 25 pc) none (xT134 pc) = none
  rw [Nat.ble_eq_true_of_le h]; rfl) (by decide +kernel)
theorem xg_135 : ∀ pc e, xI 135 pc = some e → xgood 135 pc e = true := xgood_of (sz := 171) (fun pc h => by
  show cond (Nat.ble 171 pc) none (xT135 pc) = none
  rw [Nat.ble_eq_true_of_le h]; rfl) (by decide +kernel)
