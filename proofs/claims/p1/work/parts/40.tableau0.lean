/-! the tableau where no bin is told -/
def op0 : Nat → Int32 := opV (fun _ => -1) (fun _ => 0) 0
def b00 : Nat → Nat := fun j => 64 + j
def t10 (fv : Nat) : Nat → Rat := pvT (laT 0 fv) 6 0
def t20 (fv : Nat) : Nat → Rat := am0 (amV (fun _ => -1) 0) (t10 fv)
theorem z_a : ∀ fv, fv < 7 → ∀ x, x < 576 → ((laT 0 fv x).num.natAbs < 2 ^ 15 ∧ (laT 0 fv x).den < 2 ^ 14) := by decide +kernel
theorem z_b : ∀ fv, fv < 7 → ∀ x, x < 576 → ((t10 fv x).num.natAbs < 2 ^ 15 ∧ (t10 fv x).den < 2 ^ 14) := by decide +kernel
theorem z_c : ∀ fv, fv < 7 → ∀ x, x < 576 → ((t20 fv x).num.natAbs < 2 ^ 15 ∧ (t20 fv x).den < 2 ^ 14) := by decide +kernel
theorem z_d : ∀ fv, fv < 7 → nthP (cmP (laT 0 fv) op0) 0 64 0 0 = some 0 ∧ lvF (laT 0 fv) b00 0 7 0 none = some 6 ∧ laT 0 fv (72 * 6 + 0) ≠ 0 ∧ nthP (cmP (t10 fv) op0) 0 64 0 0 = none ∧ t10 fv 575 = 0 ∧ nthP (cmP (t20 fv) op0) 0 64 0 0 = none ∧ t20 fv 504 = 0 ∧ t10 fv 432 = 1 := by decide +kernel
theorem z_e : ∀ fv, fv < 7 → ∀ i, i < 7 → cl1 op0 (t10 fv, upN b00 6 0) i = none := by decide +kernel
theorem z_f : ∀ j, j < 7 → upN b00 6 0 j < 72 ∧ b00 j < 72 ∧ (upN b00 6 0 j < 64 → j = 6) := by decide +kernel
