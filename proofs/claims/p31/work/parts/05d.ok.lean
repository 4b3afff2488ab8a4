/-! the tables hold: methods 136 .. 162 -/
theorem xg_136 : ∀ pc e, xI 136 pc = some e → xgood 136 pc e = true := xgood_of (sz := 16) (fun pc h => by
  show cond (Nat.ble 16 pc) none (xT136 pc) = none
  rw [Nat.ble_eq_true_of_le h]; rfl) (by decide +kernel)
theorem xg_137 : ∀ pc e, xI 137 pc = some e → xgood 137 pc e = true := xgood_of (sz := 8) (fun pc h => by
  show cond (Nat.ble 8 pc) none (xT137 pc) = none
  rw [Nat.ble_eq_true_of_le h]; rfl) (by decide +kernel)
theorem xg_138 : ∀ pc e, xI 138 pc = some e → xgood 138 pc e = true := xgood_of (sz := 8) (fun pc h => by
  show cond (Nat.ble 8 pc) none (xT138 pc) = none
  rw [Nat.ble_eq_true_of_le h]; rfl) (by decide +kernel)
theorem xg_139 : ∀ pc e, xI 139 pc = some e → xgood 139 pc e = true := xgood_of (sz := 7) (fun pc h => by
  show cond (Nat.ble 7 pc) none (xT139 pc) = none
  rw [Nat.ble_eq_true_of_le h]; rfl) (by decide +kernel)
theorem xg_140 : ∀ pc e, xI 140 pc = some e → xgood 140 pc e = true := xgood_of (sz := 7) (fun pc h => by
  show cond (Nat.ble 7 pc) none (xT140 pc) = none
  rw [Nat.ble_eq_true_of_le h]; rfl) (by decide +kernel)
theorem xg_141 : ∀ pc e, xI 141 pc = some e → xgood 141 pc e = true := xgood_of (sz := 10) (fun pc h => by
  show cond (Nat.ble 10 pc) none (xT141 pc) = none
  rw [Nat.ble_eq_true_of_le h]; rfl) (by decide +kernel)
theorem xg_142 : ∀ pc e, xI 142 pc = some e → xgood 142 pc e = true := xgood_of (sz := 10) (fun pc h => by
  show cond (Nat.ble 10 pc) none (xT142 pc) = none
  rw [Nat.ble_eq_true_of_le h]; rfl) (by decide +kernel)
theorem xg_143 : ∀ pc e, xI 143 pc = some e → xgood 143 pc e = true := xgood_of (sz := 45) (fun pc h => by
  show cond (Nat.ble 45 pc) none (xT143 pc) = none
  rw [Nat.ble_eq_true_of_le h]; rfl) (by decide +kernel)
theorem xg_144 : ∀ pc e, xI 144 pc = some e → xgood 144 pc e = true := xgood_of (sz := 80) (fun pc h => by
  show cond (Nat.ble 80 pc) none (xT144 pc) = none
  rw [Nat.ble_eq_true_of_le h]; rfl) (by decide +kernel)
theorem xg_145 : ∀ pc e, xI 145 pc = some e → xgood 145 pc e = true := xgood_of (sz := 81) (fun pc h => by
  show cond (Nat.ble 81 pc) none (xT145 pc) = none
  rw [Nat.ble_eq_true_of_le h]; rfl) (by decide +kernel)
theorem xg_146 : ∀ pc e, xI 146 pc = some e → xgood 146 pc e = true := xgood_of (sz := 80) (fun pc h => by
  show cond (Nat.ble 80 pc) none (xT146 pc) = none
  rw [Nat.ble_eq_true_of_le h]; rfl) (by decide +kernel)
theorem xg_147 : ∀ pc e, xI 147 pc = some e → xgood 147 pc e = true := xgood_of (sz := 70) (fun pc h => by
  show cond (Nat.ble 70 pc) none (xT147 pc) = none
  rw [Nat.ble_eq_true_of_le h]; rfl) (by decide +kernel)
theorem xg_148 : ∀ pc e, xI 148 pc = some e → xgood 148 pc e = true := xgood_of (sz := 109) (fun pc h => by
  show cond (Nat.ble 109 pc) none (xT148 pc) = none
  rw [Nat.ble_eq_true_of_le h]; rfl) (by decide +kernel)
theorem xg_149 : ∀ pc e, xI 149 pc = some e → xgood 149 pc e = true := xgood_of (sz := 53) (fun pc h => by
  show cond (Nat.ble 53 pc) none (xT149 pc) = none
  rw [Nat.ble_eq_true_of_le h]; rfl) (by decide +kernel)
theorem xg_150 : ∀ pc e, xI 150 pc = some e → xgood 150 pc e = true := xgood_of (sz := 60) (fun pc h => by
  show cond (Nat.ble 60 pc) none (xT150 pc) = none
  rw [Nat.ble_eq_true_of_le h]; rfl) (by decide +kernel)
theorem xg_151 : ∀ pc e, xI 151 pc = some e → xgood 151 pc e = true := xgood_of (sz := 23) (fun pc h => by
  show cond (Nat.ble 23 pc) none (xT151 pc) = none
  rw [Nat.ble_eq_true_of_le h]; rfl) (by decide +kernel)
theorem xg_152 : ∀ pc e, xI 152 pc = some e → xgood 152 pc e = true := xgood_of (sz := 43) (fun pc h => by
  show cond (Nat.ble 43 pc) none (xT152 pc) = none
  rw [Nat.ble_eq_true_of_le h]; rfl) (by decide +kernel)
theorem xg_153_0 : (List.range 95).all (fun i => match xI 153 (0 + i) with
    | none => true
    | some e => xgood 153 (0 + i) e) = true := by decide +kernel
theorem xg_153_1 : (List.range 95).all (fun i => match xI 153 (95 + i) with
    | none => true
    | some e => xgood 153 (95 + i) e) = true := by decide +kernel
theorem xg_153_2 : (List.range 95).all (fun i => match xI 153 (190 + i) with
    | none => true
    | some e => xgood 153 (190 + i) e) = true := by decide +kernel
theorem xg_153_3 : (List.range 95).all (fun i => match xI 153 (285 + i) with
    | none => true
    | some e => xgood 153 (285 + i) e) = true := by decide +kernel
theorem xg_153_4 : (List.range 95).all (fun i => match xI 153 (380 + i) with
    | none => true
    | some e => xgood 153 (380 + i) e) = true := by decide +kernel
theorem xg_153_5 : (List.range 95).all (fun i => match xI 153 (475 + i) with
    | none => true
    | some e => xgood 153 (475 + i) e) = true := by decide +kernel
theorem xg_153_6 : (List.range 95).all (fun i => match xI 153 (570 + i) with
    | none => true
    | some e => xgood 153 (570 + i) e) = true := by decide +kernel
theorem xg_153_7 : (List.range 95).all (fun i => match xI 153 (665 + i) with
    | none => true
    | some e => xgood 153 (665 + i) e) = true := by decide +kernel
theorem xg_153_8 : (List.range 17).all (fun i => match xI 153 (760 + i) with
    | none => true
    | some e => xgood 153 (760 + i) e) = true := by decide +kernel
theorem xg_153 : ∀ pc e, xI 153 pc = some e → xgood 153 pc e = true := by
  intro pc e h
  by_cases hs : 777 ≤ pc
  · have h0 : xI 153 pc = none := by
      show cond (Nat.ble 777 pc) none (xT153 pc) = none
      rw [Nat.ble_eq_true_of_le hs]; rfl
    rw [h0] at h
    cases h
  by_cases h0 : pc < 95
  · exact xgood_at xg_153_0 (by omega) (by omega) h
  by_cases h1 : pc < 190
  · exact xgood_at xg_153_1 (by omega) (by omega) h
  by_cases h2 : pc < 285
  · exact xgood_at xg_153_2 (by omega) (by omega) h
  by_cases h3 : pc < 380
  · exact xgood_at xg_153_3 (by omega) (by omega) h
  by_cases h4 : pc < 475
  · exact xgood_at xg_153_4 (by omega) (by omega) h
  by_cases h5 : pc < 570
  · exact xgood_at xg_153_5 (by omega) (by omega) h
  by_cases h6 : pc < 665
  · exact xgood_at xg_153_6 (by omega) (by omega) h
  by_cases h7 : pc < 760
  · exact xgood_at xg_153_7 (by omega) (by omega) h
  by_cases h8 : pc < 777
  · exact xgood_at xg_153_8 (by omega) (by omega) h
  · omega
theorem xg_154 : ∀ pc e, xI 154 pc = some e → xgood 154 pc e = true := xgood_of (sz := 19) (fun pc h => by
  show cond (Nat.ble 19 pc) none (xT154 pc) = none
  rw [Nat.ble_eq_true_of_le h]; rfl) (by decide +kernel)
theorem xg_155 : ∀ pc e, xI 155 pc = some e → xgood 155 pc e = true := xgood_of (sz := 18) (fun pc h => by
  show cond (Nat.ble 18 pc) none (xT155 pc) = none
  rw [Nat.ble_eq_true_of_le h]; rfl) (by decide +kernel)
theorem xg_156 : ∀ pc e, xI 156 pc = some e → xgood 156 pc e = true := xgood_of (sz := 10) (fun pc h => by
  show cond (Nat.ble 10 pc) none (xT156 pc) = none
  rw [Nat.ble_eq_true_of_le h]; rfl) (by decide +kernel)
theorem xg_157 : ∀ pc e, xI 157 pc = some e → xgood 157 pc e = true := xgood_of (sz := 120) (fun pc h => by
  show cond (Nat.ble 120 pc) none (xT157 pc) = none
  rw [Nat.ble_eq_true_of_le h]; rfl) (by decide +kernel)
theorem xg_158 : ∀ pc e, xI 158 pc = some e → xgood 158 pc e = true := xgood_of (sz := 53) (fun pc h => by
  show cond (Nat.ble 53 pc) none (xT158 pc) = none
  rw [Nat.ble_eq_true_of_le h]; rfl) (by decide +kernel)
theorem xg_159 : ∀ pc e, xI 159 pc = some e → xgood 159 pc e = true := xgood_of (sz := 61) (fun pc h => by
  show cond (Nat.ble 61 pc) none (xT159 pc) = none
  rw [Nat.ble_eq_true_of_le h]; rfl) (by decide +kernel)
theorem xg_160 : ∀ pc e, xI 160 pc = some e → xgood 160 pc e = true := xgood_of (sz := 26) (fun pc h => by
  show cond (Nat.ble 26 pc) none (xT160 pc) = none
  rw [Nat.ble_eq_true_of_le h]; rfl) (by decide +kernel)
theorem xg_161 : ∀ pc e, xI 161 pc = some e → xgood 161 pc e = true := xgood_of (sz := 18) (fun pc h => by
  show cond (Nat.ble 18 pc) none (xT161 pc) = none
  rw [Nat.ble_eq_true_of_le h]; rfl) (by decide +kernel)
theorem xg_162 : ∀ pc e, xI 162 pc = some e → xgood 162 pc e = true := xgood_of (sz := 226) (fun pc h => by
  show cond (Nat.ble 226 pc) none (xT162 pc) = none
  rw [Nat.ble_eq_true_of_le h]; rfl) (by decide +kernel)
