/-! SOUNDNESS, 5: every step -/
/-- an instruction that calls nobody and returns nothing: cells only come -/
def xK1 (st : xS) (r : xR) : Prop := match r with
  | none => True
  | some (.inl s') => st.2.2.2.1 ≤ s'.2.2.2.1 ∧ xsl st.2.2.2.2.1 ≤ xsl s'.2.2.2.2.1
  | some (.inr _) => False
theorem xK1_n {st : xS} : xK1 st none := trivial
theorem xK1_s {pc pc' : Nat} {pl pl' : List (Option Value)} {sk sk' : List Value} {nz : Nat} {sh : List xSh} {M M' : xM} : xK1 (pc, pl, sk, nz, sh, M) (some (.inl (pc', pl', sk', nz, sh, M'))) := ⟨Nat.le_refl _, Nat.le_refl _⟩
theorem xk_const {v : Value} {len : Nat} {st : xS} : xK1 st (xo_const v len st) := by
  unfold xo_const
  try simp only [Bool.cond_eq_ite]
  repeat' split
  all_goals first | exact trivial | exact (⟨Nat.le_refl _, Nat.le_refl _⟩ : _ ∧ _)
theorem xk_iload {i len : Nat} {st : xS} : xK1 st (xo_iload i len st) := by
  unfold xo_iload
  try simp only [Bool.cond_eq_ite]
  repeat' split
  all_goals first | exact trivial | exact (⟨Nat.le_refl _, Nat.le_refl _⟩ : _ ∧ _)
theorem xk_lload {i len : Nat} {st : xS} : xK1 st (xo_lload i len st) := by
  unfold xo_lload
  try simp only [Bool.cond_eq_ite]
  repeat' split
  all_goals first | exact trivial | exact (⟨Nat.le_refl _, Nat.le_refl _⟩ : _ ∧ _)
theorem xk_aload {i len : Nat} {st : xS} : xK1 st (xo_aload i len st) := by
  unfold xo_aload
  try simp only [Bool.cond_eq_ite]
  repeat' split
  all_goals first | exact trivial | exact (⟨Nat.le_refl _, Nat.le_refl _⟩ : _ ∧ _)
theorem xk_istore {i len : Nat} {st : xS} : xK1 st (xo_istore i len st) := by
  unfold xo_istore
  try simp only [Bool.cond_eq_ite]
  repeat' split
  all_goals first | exact trivial | exact (⟨Nat.le_refl _, Nat.le_refl _⟩ : _ ∧ _)
theorem xk_astore {i len : Nat} {st : xS} : xK1 st (xo_astore i len st) := by
  unfold xo_astore
  try simp only [Bool.cond_eq_ite]
  repeat' split
  all_goals first | exact trivial | exact (⟨Nat.le_refl _, Nat.le_refl _⟩ : _ ∧ _)
theorem xk_iinc {i : Nat} {n : Int} {len : Nat} {st : xS} : xK1 st (xo_iinc i n len st) := by
  unfold xo_iinc
  try simp only [Bool.cond_eq_ite]
  repeat' split
  all_goals first | exact trivial | exact (⟨Nat.le_refl _, Nat.le_refl _⟩ : _ ∧ _)
theorem xk_bin {f : Int32 → Int32 → Int32} {st : xS} : xK1 st (xo_bin f st) := by
  unfold xo_bin
  try simp only [Bool.cond_eq_ite]
  repeat' split
  all_goals first | exact trivial | exact (⟨Nat.le_refl _, Nat.le_refl _⟩ : _ ∧ _)
theorem xk_div {f : Int32 → Int32 → Int32} {st : xS} : xK1 st (xo_div f st) := by
  unfold xo_div
  try simp only [Bool.cond_eq_ite]
  repeat' split
  all_goals first | exact trivial | exact (⟨Nat.le_refl _, Nat.le_refl _⟩ : _ ∧ _)
theorem xk_lbin {f : Int64 → Int64 → Int64} {st : xS} : xK1 st (xo_lbin f st) := by
  unfold xo_lbin
  try simp only [Bool.cond_eq_ite]
  repeat' split
  all_goals first | exact trivial | exact (⟨Nat.le_refl _, Nat.le_refl _⟩ : _ ∧ _)
theorem xk_lsh {f : Int64 → Int32 → Int64} {st : xS} : xK1 st (xo_lsh f st) := by
  unfold xo_lsh
  try simp only [Bool.cond_eq_ite]
  repeat' split
  all_goals first | exact trivial | exact (⟨Nat.le_refl _, Nat.le_refl _⟩ : _ ∧ _)
theorem xk_un {f : Int32 → Int32} {st : xS} : xK1 st (xo_un f st) := by
  unfold xo_un
  try simp only [Bool.cond_eq_ite]
  repeat' split
  all_goals first | exact trivial | exact (⟨Nat.le_refl _, Nat.le_refl _⟩ : _ ∧ _)
theorem xk_i2l  {st : xS} : xK1 st (xo_i2l  st) := by
  unfold xo_i2l
  try simp only [Bool.cond_eq_ite]
  repeat' split
  all_goals first | exact trivial | exact (⟨Nat.le_refl _, Nat.le_refl _⟩ : _ ∧ _)
theorem xk_l2i  {st : xS} : xK1 st (xo_l2i  st) := by
  unfold xo_l2i
  try simp only [Bool.cond_eq_ite]
  repeat' split
  all_goals first | exact trivial | exact (⟨Nat.le_refl _, Nat.le_refl _⟩ : _ ∧ _)
theorem xk_lcmp  {st : xS} : xK1 st (xo_lcmp  st) := by
  unfold xo_lcmp
  try simp only [Bool.cond_eq_ite]
  repeat' split
  all_goals first | exact trivial | exact (⟨Nat.le_refl _, Nat.le_refl _⟩ : _ ∧ _)
theorem xk_pop  {st : xS} : xK1 st (xo_pop  st) := by
  unfold xo_pop
  try simp only [Bool.cond_eq_ite]
  repeat' split
  all_goals first | exact trivial | exact (⟨Nat.le_refl _, Nat.le_refl _⟩ : _ ∧ _)
theorem xk_dup  {st : xS} : xK1 st (xo_dup  st) := by
  unfold xo_dup
  try simp only [Bool.cond_eq_ite]
  repeat' split
  all_goals first | exact trivial | exact (⟨Nat.le_refl _, Nat.le_refl _⟩ : _ ∧ _)
theorem xk_dup_x1  {st : xS} : xK1 st (xo_dup_x1  st) := by
  unfold xo_dup_x1
  try simp only [Bool.cond_eq_ite]
  repeat' split
  all_goals first | exact trivial | exact (⟨Nat.le_refl _, Nat.le_refl _⟩ : _ ∧ _)
theorem xk_dup_x2  {st : xS} : xK1 st (xo_dup_x2  st) := by
  unfold xo_dup_x2
  try simp only [Bool.cond_eq_ite]
  repeat' split
  all_goals first | exact trivial | exact (⟨Nat.le_refl _, Nat.le_refl _⟩ : _ ∧ _)
theorem xk_dup2  {st : xS} : xK1 st (xo_dup2  st) := by
  unfold xo_dup2
  try simp only [Bool.cond_eq_ite]
  repeat' split
  all_goals first | exact trivial | exact (⟨Nat.le_refl _, Nat.le_refl _⟩ : _ ∧ _)
theorem xk_if {op : Jvm.ClassFile.Cond} {tgt : Nat} {st : xS} : xK1 st (xo_if op tgt st) := by
  unfold xo_if
  try simp only [Bool.cond_eq_ite]
  repeat' split
  all_goals first | exact trivial | exact (⟨Nat.le_refl _, Nat.le_refl _⟩ : _ ∧ _)
theorem xk_icmp {op : Jvm.ClassFile.Cond} {tgt : Nat} {st : xS} : xK1 st (xo_icmp op tgt st) := by
  unfold xo_icmp
  try simp only [Bool.cond_eq_ite]
  repeat' split
  all_goals first | exact trivial | exact (⟨Nat.le_refl _, Nat.le_refl _⟩ : _ ∧ _)
theorem xk_goto {tgt : Nat} {st : xS} : xK1 st (xo_goto tgt st) := by
  unfold xo_goto
  try simp only [Bool.cond_eq_ite]
  repeat' split
  all_goals first | exact trivial | exact (⟨Nat.le_refl _, Nat.le_refl _⟩ : _ ∧ _)
theorem xk_tab {d lo hi : Int} {offs : Array Int} {st : xS} : xK1 st (xo_tab d lo hi offs st) := by
  unfold xo_tab
  try simp only [Bool.cond_eq_ite]
  repeat' split
  all_goals first | exact trivial | exact (⟨Nat.le_refl _, Nat.le_refl _⟩ : _ ∧ _)
theorem xk_look {d : Int} {ps : Array (Int × Int)} {st : xS} : xK1 st (xo_look d ps st) := by
  unfold xo_look
  try simp only [Bool.cond_eq_ite]
  repeat' split
  all_goals first | exact trivial | exact (⟨Nat.le_refl _, Nat.le_refl _⟩ : _ ∧ _)
theorem xk_iald {xs : Nat → Int32} {L : Nat} {st : xS} : xK1 st (xo_iald xs L st) := by
  unfold xo_iald
  try simp only [Bool.cond_eq_ite]
  repeat' split
  all_goals first | exact trivial | exact (⟨Nat.le_refl _, Nat.le_refl _⟩ : _ ∧ _)
theorem xk_alen {L : Nat} {st : xS} : xK1 st (xo_alen L st) := by
  unfold xo_alen
  try simp only [Bool.cond_eq_ite]
  repeat' split
  all_goals first | exact trivial | exact (⟨Nat.le_refl _, Nat.le_refl _⟩ : _ ∧ _)
theorem xk_bald  {st : xS} : xK1 st (xo_bald  st) := by
  unfold xo_bald
  try simp only [Bool.cond_eq_ite]
  repeat' split
  all_goals first | exact trivial | exact (⟨Nat.le_refl _, Nat.le_refl _⟩ : _ ∧ _)
theorem xk_cald  {st : xS} : xK1 st (xo_cald  st) := by
  unfold xo_cald
  try simp only [Bool.cond_eq_ite]
  repeat' split
  all_goals first | exact trivial | exact (⟨Nat.le_refl _, Nat.le_refl _⟩ : _ ∧ _)
theorem xk_iast  {st : xS} : xK1 st (xo_iast  st) := by
  unfold xo_iast
  try simp only [Bool.cond_eq_ite]
  repeat' split
  all_goals first | exact trivial | exact (⟨Nat.le_refl _, Nat.le_refl _⟩ : _ ∧ _)
theorem xk_bast  {st : xS} : xK1 st (xo_bast  st) := by
  unfold xo_bast
  try simp only [Bool.cond_eq_ite]
  repeat' split
  all_goals first | exact trivial | exact (⟨Nat.le_refl _, Nat.le_refl _⟩ : _ ∧ _)
theorem xk_cast  {st : xS} : xK1 st (xo_cast  st) := by
  unfold xo_cast
  try simp only [Bool.cond_eq_ite]
  repeat' split
  all_goals first | exact trivial | exact (⟨Nat.le_refl _, Nat.le_refl _⟩ : _ ∧ _)
theorem xk_gets {a : Nat} {st : xS} : xK1 st (xo_gets a st) := by
  unfold xo_gets
  try simp only [Bool.cond_eq_ite]
  repeat' split
  all_goals first | exact trivial | exact (⟨Nat.le_refl _, Nat.le_refl _⟩ : _ ∧ _)
theorem xk_getf {a b : Nat} {st : xS} : xK1 st (xo_getf a b st) := by
  unfold xo_getf
  try simp only [Bool.cond_eq_ite]
  repeat' split
  all_goals first | exact trivial | exact (⟨Nat.le_refl _, Nat.le_refl _⟩ : _ ∧ _)
theorem xk_obj  {st : xS} : xK1 st (xo_obj  st) := by
  unfold xo_obj
  try simp only [Bool.cond_eq_ite]
  repeat' split
  all_goals first | exact trivial | exact (⟨Nat.le_refl _, Nat.le_refl _⟩ : _ ∧ _)
theorem xk_copy  {st : xS} : xK1 st (xo_copy  st) := by
  unfold xo_copy
  try simp only [Bool.cond_eq_ite]
  repeat' split
  all_goals first | exact trivial | exact (⟨Nat.le_refl _, Nat.le_refl _⟩ : _ ∧ _)
theorem xk_putf {a b : Nat} {st : xS} : xK1 st (xo_putf a b st) := by
  unfold xo_putf
  split
  · simp only [Bool.cond_eq_ite]
    repeat' split
    all_goals first | exact trivial | exact (⟨Nat.le_refl _, Nat.le_refl _⟩ : _ ∧ _)
  · rename_i pc0 pl0 q p stk nz0 sh0 M0
    split
    · rename_i ci fs hp
      split
      · cases Nat.beq (ci + 100) a && Nat.ble (q + 1) 999
        · exact xK1_n
        · exact ⟨Nat.le_refl _, Nat.le_of_eq (xsl_set hp (by simp [xsl1])).symm⟩
      · exact xK1_n
    · exact xK1_n
  · exact xK1_n
theorem xk_new {ini : List (Option (Option Nat))} {a : Nat} {st : xS} : xK1 st (xo_new ini a st) := by
  obtain ⟨pc, pl, sk, nz, sh, M⟩ := st
  simp only [xo_new, Bool.cond_eq_ite]
  split
  · exact ⟨Nat.le_succ _, by dsimp only; rw [xsl_push]; exact Nat.le_add_right _ _⟩
  · exact xK1_n
theorem xk_newa {ty : FieldType} {st : xS} : xK1 st (xo_newa ty st) := by
  unfold xo_newa
  try simp only [Bool.cond_eq_ite]
  repeat' split
  all_goals first | exact xK1_n | exact ⟨Nat.le_succ _, by dsimp only; rw [xsl_push]; exact Nat.le_add_right _ _⟩
