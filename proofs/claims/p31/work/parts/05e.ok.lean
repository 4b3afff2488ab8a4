/-! the tables hold: methods 163 .. 186 -/
theorem xg_163 : ∀ pc e, xI 163 pc = some e → xgood 163 pc e = true := xgood_of (sz := 56) (fun pc h => by
  show cond (Nat.ble 56 pc) none (xT163 pc) = none
  rw [Nat.ble_eq_true_of_le h]; rfl) (by decide +kernel)
theorem xg_164 : ∀ pc e, xI 164 pc = some e → xgood 164 pc e = true := xgood_of (sz := 87) (fun pc h => by
  show cond (Nat.ble 87 pc) none (xT164 pc) = none
  rw [Nat.ble_eq_true_of_le h]; rfl) (by decide +kernel)
theorem xg_165 : ∀ pc e, xI 165 pc = some e → xgood 165 pc e = true := xgood_of (sz := 26) (fun pc h => by
  show cond (Nat.ble 26 pc) none (xT165 pc) = none
  rw [Nat.ble_eq_true_of_le h]; rfl) (by decide +kernel)
theorem xg_166 : ∀ pc e, xI 166 pc = some e → xgood 166 pc e = true := xgood_of (sz := 63) (fun pc h => by
  show cond (Nat.ble 63 pc) none (xT166 pc) = none
  rw [Nat.ble_eq_true_of_le h]; rfl) (by decide +kernel)
theorem xg_167 : ∀ pc e, xI 167 pc = some e → xgood 167 pc e = true := xgood_of (sz := 25) (fun pc h => by
  show cond (Nat.ble 25 pc) none (xT167 pc) = none
  rw [Nat.ble_eq_true_of_le h]; rfl) (by decide +kernel)
theorem xg_168 : ∀ pc e, xI 168 pc = some e → xgood 168 pc e = true := xgood_of (sz := 70) (fun pc h => by
  show cond (Nat.ble 70 pc) none (xT168 pc) = none
  rw [Nat.ble_eq_true_of_le h]; rfl) (by decide +kernel)
theorem xg_169 : ∀ pc e, xI 169 pc = some e → xgood 169 pc e = true := xgood_of (sz := 54) (fun pc h => by
  show cond (Nat.ble 54 pc) none (xT169 pc) = none
  rw [Nat.ble_eq_true_of_le h]; rfl) (by decide +kernel)
theorem xg_170 : ∀ pc e, xI 170 pc = some e → xgood 170 pc e = true := xgood_of (sz := 28) (fun pc h => by
  show cond (Nat.ble 28 pc) none (xT170 pc) = none
  rw [Nat.ble_eq_true_of_le h]; rfl) (by decide +kernel)
theorem xg_171 : ∀ pc e, xI 171 pc = some e → xgood 171 pc e = true := xgood_of (sz := 142) (fun pc h => by
  show cond (Nat.ble 142 pc) none (xT171 pc) = none
  rw [Nat.ble_eq_true_of_le h]; rfl) (by decide +kernel)
theorem xg_172 : ∀ pc e, xI 172 pc = some e → xgood 172 pc e = true := xgood_of (sz := 78) (fun pc h => by
  show cond (Nat.ble 78 pc) none (xT172 pc) = none
  rw [Nat.ble_eq_true_of_le h]; rfl) (by decide +kernel)
theorem xg_173 : ∀ pc e, xI 173 pc = some e → xgood 173 pc e = true := xgood_of (sz := 29) (fun pc h => by
  show cond (Nat.ble 29 pc) none (xT173 pc) = none
  rw [Nat.ble_eq_true_of_le h]; rfl) (by decide +kernel)
theorem xg_174 : ∀ pc e, xI 174 pc = some e → xgood 174 pc e = true := xgood_of (sz := 65) (fun pc h => by
  show cond (Nat.ble 65 pc) none (xT174 pc) = none
  rw [Nat.ble_eq_true_of_le h]; rfl) (by decide +kernel)
theorem xg_175 : ∀ pc e, xI 175 pc = some e → xgood 175 pc e = true := xgood_of (sz := 156) (fun pc h => by
  show cond (Nat.ble 156 pc) none (xT175 pc) = none
  rw [Nat.ble_eq_true_of_le h]; rfl) (by decide +kernel)
theorem xg_176 : ∀ pc e, xI 176 pc = some e → xgood 176 pc e = true := xgood_of (sz := 18) (fun pc h => by
  show cond (Nat.ble 18 pc) none (xT176 pc) = none
  rw [Nat.ble_eq_true_of_le h]; rfl) (by decide +kernel)
theorem xg_177 : ∀ pc e, xI 177 pc = some e → xgood 177 pc e = true := xgood_of (sz := 74) (fun pc h => by
  show cond (Nat.ble 74 pc) none (xT177 pc) = none
  rw [Nat.ble_eq_true_of_le h]; rfl) (by decide +kernel)
theorem xg_178 : ∀ pc e, xI 178 pc = some e → xgood 178 pc e = true := xgood_of (sz := 162) (fun pc h => by
  show cond (Nat.ble 162 pc) none (xT178 pc) = none
  rw [Nat.ble_eq_true_of_le h]; rfl) (by decide +kernel)
theorem xg_179 : ∀ pc e, xI 179 pc = some e → xgood 179 pc e = true := xgood_of (sz := 190) (fun pc h => by
  show cond (Nat.ble 190 pc) none (xT179 pc) = none
  rw [Nat.ble_eq_true_of_le h]; rfl) (by decide +kernel)
theorem xg_180 : ∀ pc e, xI 180 pc = some e → xgood 180 pc e = true := xgood_of (sz := 57) (fun pc h => by
  show cond (Nat.ble 57 pc) none (xT180 pc) = none
  rw [Nat.ble_eq_true_of_le h]; rfl) (by decide +kernel)
theorem xg_181 : ∀ pc e, xI 181 pc = some e → xgood 181 pc e = true := xgood_of (sz := 37) (fun pc h => by
  show cond (Nat.ble 37 pc) none (xT181 pc) = none
  rw [Nat.ble_eq_true_of_le h]; rfl) (by decide +kernel)
theorem xg_182 : ∀ pc e, xI 182 pc = some e → xgood 182 pc e = true := xgood_of (sz := 184) (fun pc h => by
  show cond (Nat.ble 184 pc) none (xT182 pc) = none
  rw [Nat.ble_eq_true_of_le h]; rfl) (by decide +kernel)
theorem xg_183 : ∀ pc e, xI 183 pc = some e → xgood 183 pc e = true := xgood_of (sz := 44) (fun pc h => by
  show cond (Nat.ble 44 pc) none (xT183 pc) = none
  rw [Nat.ble_eq_true_of_le h]; rfl) (by decide +kernel)
theorem xg_184 : ∀ pc e, xI 184 pc = some e → xgood 184 pc e = true := xgood_of (sz := 22) (fun pc h => by
  show cond (Nat.ble 22 pc) none (xT184 pc) = none
  rw [Nat.ble_eq_true_of_le h]; rfl) (by decide +kernel)
theorem xg_185 : ∀ pc e, xI 185 pc = some e → xgood 185 pc e = true := xgood_of (sz := 39) (fun pc h => by
  show cond (Nat.ble 39 pc) none (xT185 pc) = none
  rw [Nat.ble_eq_true_of_le h]; rfl) (by decide +kernel)
theorem xg_186 : ∀ pc e, xI 186 pc = some e → xgood 186 pc e = true := xgood_of (sz := 107) (fun pc h => by
  show cond (Nat.ble 107 pc) none (xT186 pc) = none
  rw [Nat.ble_eq_true_of_le h]; rfl) (by decide +kernel)
