/-! ===== how far: doubles ===== -/
def fdv (a b : Nat) : UInt64 := FP.ddiv (FP.i2d (nI a)) (FP.i2d (nI b))
def fdvOk (a b : Nat) : Prop := vf_n64 (fdv a b) ∧ (FP.dcmp (fdv a b) 0 = some .gt ∨ FP.dcmp (fdv a b) 0 = some .eq)
theorem fdv_all : ∀ b, b < 13 → ∀ a, a < 1000 → b = 0 ∨ ((fdv a b &&& 0x7fffffffffffffff ≤ 0x7ff0000000000000) ∧ (FP.dcmp (fdv a b) 0 = some .gt ∨ FP.dcmp (fdv a b) 0 = some .eq)) := by decide +kernel
theorem fdv_ok {a b : Nat} (ha : a < 1000) (hb : b < 13) (h0 : b ≠ 0) : fdvOk a b := (fdv_all b hb a ha).elim (fun e => absurd e h0) id
theorem dcmp_nn {x y : UInt64} (hx : FP.dcmp x 0 ≠ none) (hy : FP.dcmp y 0 ≠ none) : FP.dcmp x y ≠ none := by
  revert hx hy
  show FP.Core.order (FP.Core.decode FP.Core.b64 x.toNat) _ ≠ none → FP.Core.order (FP.Core.decode FP.Core.b64 y.toNat) _ ≠ none → FP.Core.order (FP.Core.decode FP.Core.b64 x.toNat) (FP.Core.decode FP.Core.b64 y.toNat) ≠ none
  generalize FP.Core.decode FP.Core.b64 x.toNat = d
  generalize FP.Core.decode FP.Core.b64 y.toNat = e
  intro hx hy
  cases d with
  | nan => exact absurd rfl hx
  | inf s => cases e with
    | nan => exact absurd rfl hy
    | inf t => exact Option.some_ne_none _
    | fin a b c => exact Option.some_ne_none _
  | fin a b c => cases e with
    | nan => exact absurd rfl hy
    | inf t => exact Option.some_ne_none _
    | fin a b c => exact Option.some_ne_none _
