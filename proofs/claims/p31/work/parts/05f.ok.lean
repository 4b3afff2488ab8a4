/-! the tables hold: methods 187 .. 207 -/
theorem xg_187 : ∀ pc e, xI 187 pc = some e → xgood 187 pc e = true := xgood_of (sz := 185) (fun pc h => by
  show cond (Nat.ble 185 pc) none (xT187 pc) = none
  rw [Nat.ble_eq_true_of_le h]; rfl) (by decide +kernel)
theorem xg_188 : ∀ pc e, xI 188 pc = some e → xgood 188 pc e = true := xgood_of (sz := 124) (fun pc h => by
  show cond (Nat.ble 124 pc) none (xT188 pc) = none
  rw [Nat.ble_eq_true_of_le h]; rfl) (by decide +kernel)
theorem xg_189 : ∀ pc e, xI 189 pc = some e → xgood 189 pc e = true := xgood_of (sz := 98) (fun pc h => by
  show cond (Nat.ble 98 pc) none (xT189 pc) = none
  rw [Nat.ble_eq_true_of_le h]; rfl) (by decide +kernel)
theorem xg_190 : ∀ pc e, xI 190 pc = some e → xgood 190 pc e = true := xgood_of (sz := 152) (fun pc h => by
  show cond (Nat.ble 152 pc) none (xT190 pc) = none
  rw [Nat.ble_eq_true_of_le h]; rfl) (by decide +kernel)
theorem xg_191 : ∀ pc e, xI 191 pc = some e → xgood 191 pc e = true := xgood_of (sz := 139) (fun pc h => by
  show cond (Nat.ble 139 pc) none (xT191 pc) = none
  rw [Nat.ble_eq_true_of_le h]; rfl) (by decide +kernel)
theorem xg_192 : ∀ pc e, xI 192 pc = some e → xgood 192 pc e = true := xgood_of (sz := 85) (fun pc h => by
  show cond (Nat.ble 85 pc) none (xT192 pc) = none
  rw [Nat.ble_eq_true_of_le h]; rfl) (by decide +kernel)
theorem xg_193 : ∀ pc e, xI 193 pc = some e → xgood 193 pc e = true := xgood_of (sz := 38) (fun pc h => by
  show cond (Nat.ble 38 pc) none (xT193 pc) = none
  rw [Nat.ble_eq_true_of_le h]; rfl) (by decide +kernel)
theorem xg_194 : ∀ pc e, xI 194 pc = some e → xgood 194 pc e = true := xgood_of (sz := 55) (fun pc h => by
  show cond (Nat.ble 55 pc) none (xT194 pc) = none
  rw [Nat.ble_eq_true_of_le h]; rfl) (by decide +kernel)
theorem xg_195 : ∀ pc e, xI 195 pc = some e → xgood 195 pc e = true := xgood_of (sz := 104) (fun pc h => by
  show cond (Nat.ble 104 pc) none (xT195 pc) = none
  rw [Nat.ble_eq_true_of_le h]; rfl) (by decide +kernel)
theorem xg_196 : ∀ pc e, xI 196 pc = some e → xgood 196 pc e = true := xgood_of (sz := 33) (fun pc h => by
  show cond (Nat.ble 33 pc) none (xT196 pc) = none
  rw [Nat.ble_eq_true_of_le h]; rfl) (by decide +kernel)
theorem xg_197 : ∀ pc e, xI 197 pc = some e → xgood 197 pc e = true := xgood_of (sz := 212) (fun pc h => by
  show cond (Nat.ble 212 pc) none (xT197 pc) = none
  rw [Nat.ble_eq_true_of_le h]; rfl) (by decide +kernel)
theorem xg_198 : ∀ pc e, xI 198 pc = some e → xgood 198 pc e = true := xgood_of (sz := 135) (fun pc h => by
  show cond (Nat.ble 135 pc) none (xT198 pc) = none
  rw [Nat.ble_eq_true_of_le h]; rfl) (by decide +kernel)
theorem xg_199 : ∀ pc e, xI 199 pc = some e → xgood 199 pc e = true := xgood_of (sz := 43) (fun pc h => by
  show cond (Nat.ble 43 pc) none (xT199 pc) = none
  rw [Nat.ble_eq_true_of_le h]; rfl) (by decide +kernel)
theorem xg_200 : ∀ pc e, xI 200 pc = some e → xgood 200 pc e = true := xgood_of (sz := 18) (fun pc h => by
  show cond (Nat.ble 18 pc) none (xT200 pc) = none
  rw [Nat.ble_eq_true_of_le h]; rfl) (by decide +kernel)
theorem xg_201 : ∀ pc e, xI 201 pc = some e → xgood 201 pc e = true := xgood_of (sz := 218) (fun pc h => by
  show cond (Nat.ble 218 pc) none (xT201 pc) = none
  rw [Nat.ble_eq_true_of_le h]; rfl) (by decide +kernel)
theorem xg_202 : ∀ pc e, xI 202 pc = some e → xgood 202 pc e = true := xgood_of (sz := 5) (fun pc h => by
  show cond (Nat.ble 5 pc) none (xT202 pc) = none
  rw [Nat.ble_eq_true_of_le h]; rfl) (by decide +kernel)
theorem xg_203 : ∀ pc e, xI 203 pc = some e → xgood 203 pc e = true := xgood_of (sz := 10) (fun pc h => by
  show cond (Nat.ble 10 pc) none (xT203 pc) = none
  rw [Nat.ble_eq_true_of_le h]; rfl) (by decide +kernel)
theorem xg_204 : ∀ pc e, xI 204 pc = some e → xgood 204 pc e = true := xgood_of (sz := 79) (fun pc h => by
  show cond (Nat.ble 79 pc) none (xT204 pc) = none
  rw [Nat.ble_eq_true_of_le h]; rfl) (by decide +kernel)
theorem xg_205 : ∀ pc e, xI 205 pc = some e → xgood 205 pc e = true := xgood_of (sz := 10) (fun pc h => by
  show cond (Nat.ble 10 pc) none (xT205 pc) = none
  rw [Nat.ble_eq_true_of_le h]; rfl) (by decide +kernel)
theorem xg_206 : ∀ pc e, xI 206 pc = some e → xgood 206 pc e = true := xgood_of (sz := 18) (fun pc h => by
  show cond (Nat.ble 18 pc) none (xT206 pc) = none
  rw [Nat.ble_eq_true_of_le h]; rfl) (by decide +kernel)
theorem xg_207 : ∀ pc e, xI 207 pc = some e → xgood 207 pc e = true := xgood_of (sz := 40) (fun pc h => by
  show cond (Nat.ble 40 pc) none (xT207 pc) = none
  rw [Nat.ble_eq_true_of_le h]; rfl) (by decide +kernel)
