/-! ===== costs ===== -/
theorem lc_c {f : Nat → Nat} : ∀ a b : List Nat, lc f a b = lc f b a := by
  intro a
  induction a with
  | nil =>
    intro b
    rw [lc_nil]
    rfl
  | cons x l ih =>
    intro b
    induction b with
    | nil => rw [lc_nil]; rfl
    | cons y m ih2 =>
      rw [lc_cons, lc_cons, ih (y :: m), ih2, ih m, cst_c, Nat.min_comm (lc f (y :: m) l)]
theorem cwo_c {f : Nat → Nat} {a b : List Nat} : cwo f a b = cwo f b a := by
  unfold cwo
  by_cases h : a = [] ∨ b = []
  · rw [if_pos h, if_pos (Or.comm.mp h)]
  · rw [if_neg h, if_neg (fun q => h (Or.comm.mp q)), lc_c]
