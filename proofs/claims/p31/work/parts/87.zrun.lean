/-! CELLS OUTSIDE THE SHAPES: runs -/
theorem xzo_step0 {al : Bool} {y : Nat} : xzF (xstep0 al y) := by
  intro s q hz h
  unfold xstep0 at h
  split at h
  · rename_i e he
    rw [Bool.cond_eq_ite] at h
    split at h
    · cases h
    · exact xzo_ex s q hz h
  · cases h
theorem xzo_run0 {al : Bool} : ∀ (n y : Nat) (s : xS) (r : xZ), xzo s.2.2.2.2.1 s.2.2.2.2.2 → xrun0 al n y s = some r → xzo r.2.2.1 r.2.2.2
  | 0, _, _, _, _, h => by cases h
  | n + 1, y, s, r, hz, h => by
    unfold xrun0 at h
    split at h
    · cases h
    · rename_i s' hs
      exact xzo_run0 n y s' r (xzo_step0 s _ hz hs) h
    · rename_i z as pc pl st nz sh M hs
      have h1 := xzo_step0 s _ hz hs
      simp only [Bool.cond_eq_ite] at h
      split at h
      · split at h
        · cases h
        · rename_i v nz' sh' M' hr
          have h2 := xzo_run0 n z (0, xent z as, [], nz, sh, M) (v, nz', sh', M') h1 hr
          split at h
          · exact xzo_run0 n y _ r h2 h
          · cases h
      · cases h
    · rename_i v hs
      cases h
      exact hz
set_option maxRecDepth 100000 in
theorem xzo_0 : xzo xsh0 xM0 := by
  have z0 : xzo [(Sum.inr (10, xini.getD 10 []) : xSh)] (va_up (fun _ _ => 0) 0 (fun _ => 0)) := xzo_new (sh := []) (fun _ _ _ => rfl)
  have z1 : xzo xsh1 xM1 := xzo_run0 _ _ _ _ z0 xA1_eq
  have z2 : xzo (xsh1 ++ [(Sum.inr (11, xini.getD 11 []) : xSh)]) (va_up xM1 56 (fun _ => 0)) := xzo_new z1
  exact xzo_run0 _ _ _ _ z2 xA2_eq
