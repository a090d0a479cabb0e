/-! numbers: bits of small sets as natural numbers -/
theorem nn_sl : ∀ n, n < 32 → ((nI n &&& 31).toBitVec.smod 32).toNat = n := by decide +kernel
theorem nn_tb (n : Nat) : (nI n).toBitVec = BitVec.ofNat 32 n := rfl
theorem nn_and (a b : Nat) : nI a &&& nI b = nI (a &&& b) := by
  apply Int32.toBitVec_inj.mp
  show (nI a).toBitVec &&& (nI b).toBitVec = (nI (a &&& b)).toBitVec
  rw [nn_tb, nn_tb, nn_tb]
  exact BitVec.ofNat_and.symm
theorem nn_or (a b : Nat) : nI a ||| nI b = nI (a ||| b) := by
  apply Int32.toBitVec_inj.mp
  show (nI a).toBitVec ||| (nI b).toBitVec = (nI (a ||| b)).toBitVec
  rw [nn_tb, nn_tb, nn_tb]
  exact BitVec.ofNat_or.symm
theorem nn_shr {k j : Nat} (hk : k < 2 ^ 31) (hj : j < 32) : nI k >>> (nI j &&& 31) = nI (k / 2 ^ j) := pk_shrN hk _ j (nn_sl j hj)
theorem nn_sh1 {j : Nat} (hj : j < 31) : (1 : Int32) <<< (nI j &&& 31) = nI (2 ^ j) := by
  have h : ∀ j, j < 31 → (1 : Int32) <<< (nI j &&& 31) = nI (2 ^ j) := by decide +kernel
  exact h j hj
theorem nn_bit {k j : Nat} (hk : k < 2 ^ 31) (hj : j < 32) : (nI k >>> (nI j &&& 31)) &&& 1 = if k.testBit j then 1 else 0 := by
  rw [nn_shr hk hj]
  have h1 : nI (k / 2 ^ j) &&& nI 1 = nI ((k / 2 ^ j) &&& 1) := nn_and _ _
  refine Eq.trans h1 ?_
  rw [Nat.and_one_is_mod, Nat.testBit_eq_decide_div_mod_eq]
  have h2 : k / 2 ^ j % 2 < 2 := Nat.mod_lt _ (by decide)
  rcases (by omega : k / 2 ^ j % 2 = 0 ∨ k / 2 ^ j % 2 = 1) with h | h <;> rw [h] <;> rfl
/-- an array's cell is what its function says up to its length -/
theorem cell_i {c : ClassId} {n : Nat} {f g : Nat → Int32} (h : ∀ j, j < n → f j = g j) : vp_cell c (n, .inl f) = vp_cell c (n, .inl g) := by
  show arrV c n (fun j => .int (f j)) = arrV c n (fun j => .int (g j))
  unfold arrV
  congr 1
  apply Array.ext <;> simp
  intro i hi
  exact h i hi
theorem cell_l {c : ClassId} {n : Nat} {f g : Nat → Int64} (h : ∀ j, j < n → f j = g j) : vp_cell c (n, .inr (.inl f)) = vp_cell c (n, .inr (.inl g)) := by
  show arrV c n (fun j => .long (f j)) = arrV c n (fun j => .long (g j))
  unfold arrV
  congr 1
  apply Array.ext <;> simp
  intro i hi
  exact h i hi
/-- the n-th bin of a set, as both sides look for it -/
def nthF (k : Nat) (n : Int32) : Nat → Nat → Nat → Int32
  | 0, _, _ => -1
  | f + 1, b, q => if k.testBit b then (if nI q = n then nI b else nthF k n f (b + 1) (q + 1)) else nthF k n f (b + 1) q
