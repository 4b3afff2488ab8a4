/-! the tables hold: methods 208 .. 231 -/
theorem xg_208 : ∀ pc e, xI 208 pc = some e → xgood 208 pc e = true := xgood_of (sz := 54) (fun pc h => by
  show cond (Nat.ble 54 pc) none (xT208 pc) = none
  rw [Nat.ble_eq_true_of_le h]; rfl) (by decide +kernel)
theorem xg_209 : ∀ pc e, xI 209 pc = some e → xgood 209 pc e = true := xgood_of (sz := 73) (fun pc h => by
  show cond (Nat.ble 73 pc) none (xT209 pc) = none
  rw [Nat.ble_eq_true_of_le h]; rfl) (by decide +kernel)
theorem xg_210 : ∀ pc e, xI 210 pc = some e → xgood 210 pc e = true := xgood_of (sz := 65) (fun pc h => by
  show cond (Nat.ble 65 pc) none (xT210 pc) = none
  rw [Nat.ble_eq_true_of_le h]; rfl) (by decide +kernel)
theorem xg_211 : ∀ pc e, xI 211 pc = some e → xgood 211 pc e = true := xgood_of (sz := 110) (fun pc h => by
  show cond (Nat.ble 110 pc) none (xT211 pc) = none
  rw [Nat.ble_eq_true_of_le h]; rfl) (by decide +kernel)
theorem xg_212 : ∀ pc e, xI 212 pc = some e → xgood 212 pc e = true := xgood_of (sz := 47) (fun pc h => by
  show cond (Nat.ble 47 pc) none (xT212 pc) = none
  rw [Nat.ble_eq_true_of_le h]; rfl) (by decide +kernel)
theorem xg_213 : ∀ pc e, xI 213 pc = some e → xgood 213 pc e = true := xgood_of (sz := 26) (fun pc h => by
  show cond (Nat.ble 26 pc) none (xT213 pc) = none
  rw [Nat.ble_eq_true_of_le h]; rfl) (by decide +kernel)
theorem xg_214 : ∀ pc e, xI 214 pc = some e → xgood 214 pc e = true := xgood_of (sz := 18) (fun pc h => by
  show cond (Nat.ble 18 pc) none (xT214 pc) = none
  rw [Nat.ble_eq_true_of_le h]; rfl) (by decide +kernel)
theorem xg_215 : ∀ pc e, xI 215 pc = some e → xgood 215 pc e = true := xgood_of (sz := 29) (fun pc h => by
  show cond (Nat.ble 29 pc) none (xT215 pc) = none
  rw [Nat.ble_eq_true_of_le h]; rfl) (by decide +kernel)
theorem xg_216 : ∀ pc e, xI 216 pc = some e → xgood 216 pc e = true := xgood_of (sz := 130) (fun pc h => by
  show cond (Nat.ble 130 pc) none (xT216 pc) = none
  rw [Nat.ble_eq_true_of_le h]; rfl) (by decide +kernel)
theorem xg_217 : ∀ pc e, xI 217 pc = some e → xgood 217 pc e = true := xgood_of (sz := 110) (fun pc h => by
  show cond (Nat.ble 110 pc) none (xT217 pc) = none
  rw [Nat.ble_eq_true_of_le h]; rfl) (by decide +kernel)
theorem xg_218 : ∀ pc e, xI 218 pc = some e → xgood 218 pc e = true := xgood_of (sz := 64) (fun pc h => by
  show cond (Nat.ble 64 pc) none (xT218 pc) = none
  rw [Nat.ble_eq_true_of_le h]; rfl) (by decide +kernel)
theorem xg_219 : ∀ pc e, xI 219 pc = some e → xgood 219 pc e = true := xgood_of (sz := 27) (fun pc h => by
  show cond (Nat.ble 27 pc) none (xT219 pc) = none
  rw [Nat.ble_eq_true_of_le h]; rfl) (by decide +kernel)
theorem xg_220 : ∀ pc e, xI 220 pc = some e → xgood 220 pc e = true := xgood_of (sz := 180) (fun pc h => by
  show cond (Nat.ble 180 pc) none (xT220 pc) = none
  rw [Nat.ble_eq_true_of_le h]; rfl) (by decide +kernel)
theorem xg_221 : ∀ pc e, xI 221 pc = some e → xgood 221 pc e = true := xgood_of (sz := 23) (fun pc h => by
  show cond (Nat.ble 23 pc) none (xT221 pc) = none
  rw [Nat.ble_eq_true_of_le h]; rfl) (by decide +kernel)
theorem xg_222 : ∀ pc e, xI 222 pc = some e → xgood 222 pc e = true := xgood_of (sz := 20) (fun pc h => by
  show cond (Nat.ble 20 pc) none (xT222 pc) = none
  rw [Nat.ble_eq_true_of_le h]; rfl) (by decide +kernel)
theorem xg_223 : ∀ pc e, xI 223 pc = some e → xgood 223 pc e = true := xgood_of (sz := 11) (fun pc h => by
  show cond (Nat.ble 11 pc) none (xT223 pc) = none
  rw [Nat.ble_eq_true_of_le h]; rfl) (by decide +kernel)
theorem xg_224 : ∀ pc e, xI 224 pc = some e → xgood 224 pc e = true := xgood_of (sz := 25) (fun pc h => by
  show cond (Nat.ble 25 pc) none (xT224 pc) = none
  rw [Nat.ble_eq_true_of_le h]; rfl) (by decide +kernel)
theorem xg_225 : ∀ pc e, xI 225 pc = some e → xgood 225 pc e = true := xgood_of (sz := 15) (fun pc h => by
  show cond (Nat.ble 15 pc) none (xT225 pc) = none
  rw [Nat.ble_eq_true_of_le h]; rfl) (by decide +kernel)
theorem xg_226 : ∀ pc e, xI 226 pc = some e → xgood 226 pc e = true := xgood_of (sz := 19) (fun pc h => by
  show cond (Nat.ble 19 pc) none (xT226 pc) = none
  rw [Nat.ble_eq_true_of_le h]; rfl) (by decide +kernel)
theorem xg_227 : ∀ pc e, xI 227 pc = some e → xgood 227 pc e = true := xgood_of (sz := 10) (fun pc h => by
  show cond (Nat.ble 10 pc) none (xT227 pc) = none
  rw [Nat.ble_eq_true_of_le h]; rfl) (by decide +kernel)
theorem xg_228 : ∀ pc e, xI 228 pc = some e → xgood 228 pc e = true := xgood_of (sz := 15) (fun pc h => by
  show cond (Nat.ble 15 pc) none (xT228 pc) = none
  rw [Nat.ble_eq_true_of_le h]; rfl) (by decide +kernel)
theorem xg_229 : ∀ pc e, xI 229 pc = some e → xgood 229 pc e = true := xgood_of (sz := 21) (fun pc h => by
  show cond (Nat.ble 21 pc) none (xT229 pc) = none
  rw [Nat.ble_eq_true_of_le h]; rfl) (by decide +kernel)
theorem xg_230 : ∀ pc e, xI 230 pc = some e → xgood 230 pc e = true := xgood_of (sz := 18) (fun pc h => by
  show cond (Nat.ble 18 pc) none (xT230 pc) = none
  rw [Nat.ble_eq_true_of_le h]; rfl) (by decide +kernel)
theorem xg_231_0 : (List.range 88).all (fun i => match xI 231 (0 + i) with
    | none => true
    | some e => xgood 231 (0 + i) e) = true := by decide +kernel
theorem xg_231_1 : (List.range 88).all (fun i => match xI 231 (88 + i) with
    | none => true
    | some e => xgood 231 (88 + i) e) = true := by decide +kernel
theorem xg_231_2 : (List.range 88).all (fun i => match xI 231 (176 + i) with
    | none => true
    | some e => xgood 231 (176 + i) e) = true := by decide +kernel
theorem xg_231_3 : (List.range 88).all (fun i => match xI 231 (264 + i) with
    | none => true
    | some e => xgood 231 (264 + i) e) = true := by decide +kernel
theorem xg_231_4 : (List.range 88).all (fun i => match xI 231 (352 + i) with
    | none => true
    | some e => xgood 231 (352 + i) e) = true := by decide +kernel
theorem xg_231_5 : (List.range 88).all (fun i => match xI 231 (440 + i) with
    | none => true
    | some e => xgood 231 (440 + i) e) = true := by decide +kernel
theorem xg_231_6 : (List.range 88).all (fun i => match xI 231 (528 + i) with
    | none => true
    | some e => xgood 231 (528 + i) e) = true := by decide +kernel
theorem xg_231_7 : (List.range 88).all (fun i => match xI 231 (616 + i) with
    | none => true
    | some e => xgood 231 (616 + i) e) = true := by decide +kernel
theorem xg_231_8 : (List.range 88).all (fun i => match xI 231 (704 + i) with
    | none => true
    | some e => xgood 231 (704 + i) e) = true := by decide +kernel
theorem xg_231_9 : (List.range 88).all (fun i => match xI 231 (792 + i) with
    | none => true
    | some e => xgood 231 (792 + i) e) = true := by decide +kernel
theorem xg_231_10 : (List.range 88).all (fun i => match xI 231 (880 + i) with
    | none => true
    | some e => xgood 231 (880 + i) e) = true := by decide +kernel
theorem xg_231_11 : (List.range 88).all (fun i => match xI 231 (968 + i) with
    | none => true
    | some e => xgood 231 (968 + i) e) = true := by decide +kernel
theorem xg_231_12 : (List.range 88).all (fun i => match xI 231 (1056 + i) with
    | none => true
    | some e => xgood 231 (1056 + i) e) = true := by decide +kernel
theorem xg_231_13 : (List.range 3).all (fun i => match xI 231 (1144 + i) with
    | none => true
    | some e => xgood 231 (1144 + i) e) = true := by decide +kernel
theorem xg_231 : ∀ pc e, xI 231 pc = some e → xgood 231 pc e = true := by
  intro pc e h
  by_cases hs : 1147 ≤ pc
  · have h0 : xI 231 pc = none := by
      show cond (Nat.ble 1147 pc) none (xT231 pc) = none
      rw [Nat.ble_eq_true_of_le hs]; rfl
    rw [h0] at h
    cases h
  by_cases h0 : pc < 88
  · exact xgood_at xg_231_0 (by omega) (by omega) h
  by_cases h1 : pc < 176
  · exact xgood_at xg_231_1 (by omega) (by omega) h
  by_cases h2 : pc < 264
  · exact xgood_at xg_231_2 (by omega) (by omega) h
  by_cases h3 : pc < 352
  · exact xgood_at xg_231_3 (by omega) (by omega) h
  by_cases h4 : pc < 440
  · exact xgood_at xg_231_4 (by omega) (by omega) h
  by_cases h5 : pc < 528
  · exact xgood_at xg_231_5 (by omega) (by omega) h
  by_cases h6 : pc < 616
  · exact xgood_at xg_231_6 (by omega) (by omega) h
  by_cases h7 : pc < 704
  · exact xgood_at xg_231_7 (by omega) (by omega) h
  by_cases h8 : pc < 792
  · exact xgood_at xg_231_8 (by omega) (by omega) h
  by_cases h9 : pc < 880
  · exact xgood_at xg_231_9 (by omega) (by omega) h
  by_cases h10 : pc < 968
  · exact xgood_at xg_231_10 (by omega) (by omega) h
  by_cases h11 : pc < 1056
  · exact xgood_at xg_231_11 (by omega) (by omega) h
  by_cases h12 : pc < 1144
  · exact xgood_at xg_231_12 (by omega) (by omega) h
  by_cases h13 : pc < 1147
  · exact xgood_at xg_231_13 (by omega) (by omega) h
  · omega
