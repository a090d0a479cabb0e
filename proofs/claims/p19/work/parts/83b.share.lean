/-! shares: the greatest divisor of both -/
theorem lN_div {a b : Nat} (ha : a < 2 ^ 31) (hb : b < 2 ^ 31) : lN a / lN b = lN (a / b) := by
  have h := Nat.div_le_self a b
  apply Int64.toInt_inj.mp
  rw [Int64.toInt_div, lN_toInt ha, lN_toInt hb, lN_toInt (by omega), ← Int.ofNat_tdiv]
  generalize a / b = c at h
  exact Int.bmod_eq_of_le (by omega) (by omega)
theorem gdF_step {f a b : Nat} (ha : a < 2 ^ 31) (hb : b < 2 ^ 31) (h0 : ¬ b = 0) : gdF (f + 1) (lN a) (lN b) = gdF f (lN b) (lN (a % b)) := by
  simp only [gdF]
  rw [if_neg (show ¬ lN b = 0 from fun q => h0 ((lN_eq hb (by decide)).mp (show lN b = lN 0 from q))), lN_div ha hb, lN_mul, lN_sub (Nat.div_mul_le_self a b)]
  congr 2
  have := Nat.div_add_mod a b
  rw [Nat.mul_comm] at this
  omega
theorem gdF_0 {f a : Nat} : gdF (f + 1) (lN a) (lN 0) = lN a := by
  simp only [gdF]
  rw [if_pos (show lN 0 = 0 from rfl)]
theorem gdF_ok : ∀ (k a b : Nat), a < 2 ^ 31 → b < 2 ^ 31 → b < 2 ^ k → ∀ f, gdF (2 * k + 1 + f) (lN a) (lN b) = lN (Nat.gcd a b)
  | 0, a, b, ha, hb, hk, f => by
    have e : b = 0 := by simp at hk; exact hk
    subst e
    rw [show 2 * 0 + 1 + f = f + 1 by omega, gdF_0, Nat.gcd_zero_right]
  | k + 1, a, b, ha, hb, hk, f => by
    by_cases e : b = 0
    · subst e
      rw [show 2 * (k + 1) + 1 + f = (2 * (k + 1) + f) + 1 by omega, gdF_0, Nat.gcd_zero_right]
    · rw [show 2 * (k + 1) + 1 + f = (2 * k + 1 + f + 1) + 1 by omega, gdF_step ha hb e]
      have hc := Nat.mod_lt a (Nat.pos_of_ne_zero e)
      have g : Nat.gcd a b = Nat.gcd b (a % b) := by rw [Nat.gcd_comm a b, Nat.gcd_rec b a, Nat.gcd_comm]
      by_cases e2 : a % b = 0
      · rw [g, e2, gdF_0, Nat.gcd_zero_right]
      · rw [gdF_step hb (by omega) e2, gdF_ok k (a % b) (b % (a % b)) (by omega) (by have := Nat.mod_lt b (Nat.pos_of_ne_zero e2); omega) ?_ f]
        · rw [g, Nat.gcd_comm b (a % b), Nat.gcd_rec (a % b) b, Nat.gcd_comm]
        · generalize hcc : a % b = c at *
          have m1 := Nat.mod_lt b (Nat.pos_of_ne_zero e2)
          have m2 := Nat.div_add_mod b c
          have hp : 2 ^ (k + 1) = 2 * 2 ^ k := by rw [Nat.pow_succ]; omega
          have q1 : 1 ≤ b / c := (Nat.one_le_div_iff (Nat.pos_of_ne_zero e2)).mpr (by omega)
          have q2 : c * 1 ≤ c * (b / c) := Nat.mul_le_mul_left c q1
          omega
theorem fd_ok {x y : Nat} (hx : x < 2 ^ 31) (hy : y < 2 ^ 31) (h0 : 0 < y) : fdv (lN x) (lN y) = lN (Nat.gcd x y) := by
  unfold fdv
  rw [if_pos (show 0 < lN y from (lN_lt (a := 0) (b := y) (by decide) hy).mpr h0), if_pos (show 0 ≤ lN x from (lN_le (a := 0) (b := x) (by decide) hx).mpr (Nat.zero_le _))]
  exact gdF_ok 31 x y hx hy hy 65
theorem fd_0 {x : Int64} : fdv x (lN 0) = 0 := by
  unfold fdv
  rw [if_neg (by decide)]
section SH
variable {bn lc cc fb fl : Nat} {ld : Int64} {cs re ro od fk : Nat → Nat} {kg co : Nat → Int64} {wr fd : Int32} {rows rounds costs lists : Nat → Int32}
/-- a column: a set of told bins, with a round -/
theorem fr_col (hbn : bn ≤ 6) (hcc : cc ≤ 63) (hcs : ∀ j, j < 63 → cs j < 64) (h : FR bn ld lc cc cs kg re ro co od wr fb fl fk rows rounds costs lists fd) {j : Nat} (hj : j < cc) : ¬ ro (cs j) = 0 ∧ 0 < cs j ∧ cs j < 2 ^ bn := by
  obtain ⟨g1, g2⟩ := fr_p hbn h
  have hc := hcs j (by omega)
  have hne : ¬ ro (cs j) = 0 := by
    have hh := (nth_hit 63 1 0 (fr_nth hbn hcc h hj)).1
    have hh : decide (0 ≤ costs (cs j)) = true := hh
    rw [g1 (cs j) hc] at hh
    simpa using hh
  refine ⟨hne, ?_, ?_⟩
  · rcases Nat.eq_zero_or_pos (cs j) with e | e
    · rw [e] at hne; exact absurd (g2 0 (by omega) (Or.inl rfl)) hne
    · exact e
  · apply Classical.byContradiction
    intro q
    exact hne (g2 _ hc (Or.inr (by omega)))
theorem fr_share (hbn : bn ≤ 6) (hcc : cc ≤ 63) (hcs : ∀ j, j < 63 → cs j < 64) (hfl : fl ≤ 6000) (hk : ∀ j, j < 6 → fk j ≤ 1000) (h : FR bn ld lc cc cs kg re ro co od wr fb fl fk rows rounds costs lists fd) (n pt : Int32) :
    (if 0 ≤ n ∧ n < nI cc then (if pt = 0 then fdT (kg (cs n.toNatClampNeg)) ld else if pt = 1 then fdB (kg (cs n.toNatClampNeg)) ld else 0) else 0) = if ((nthP (fun k => decide (0 ≤ costs k)) n 63 1 0).getD 0) = 0 ∨ fl = 0 then 0 else if pt = 0 then lN (kgN fk ((nthP (fun k => decide (0 ≤ costs k)) n 63 1 0).getD 0) fb) / lN (Nat.gcd (kgN fk ((nthP (fun k => decide (0 ≤ costs k)) n 63 1 0).getD 0) fb) fl) else if pt = 1 then lN fl / lN (Nat.gcd (kgN fk ((nthP (fun k => decide (0 ≤ costs k)) n 63 1 0).getD 0) fb) fl) else 0 := by
  by_cases q : 0 ≤ n ∧ n < nI cc
  · obtain ⟨j, hj, rfl⟩ := ix_of q (by omega)
    obtain ⟨-, c2, c3⟩ := fr_col hbn hcc hcs h hj
    rw [if_pos q, fr_nth hbn hcc h hj, nI_clamp (by omega)]
    obtain ⟨rfl, rfl, h3, -⟩ := h
    rw [h3 _ c3]
    show _ = if cs j = 0 ∨ fl = 0 then 0 else if pt = 0 then lN (kgN fk (cs j) bn) / lN (Nat.gcd (kgN fk (cs j) bn) fl) else if pt = 1 then lN fl / lN (Nat.gcd (kgN fk (cs j) bn) fl) else 0
    have hX := (kgM_N (st := cs j) hk bn hbn).2
    by_cases z : fl = 0
    · subst z
      rw [if_pos (Or.inr rfl)]
      unfold fdT fdB
      rw [fd_0, if_pos (show (0 : Int64) ≤ 0 by decide), if_pos (show (0 : Int64) ≤ 0 by decide)]
      split
      · rfl
      · split <;> rfl
    · rw [if_neg (show ¬ (cs j = 0 ∨ fl = 0) by omega)]
      have hg : 0 < Nat.gcd (kgN fk (cs j) bn) fl := Nat.gcd_pos_of_pos_right _ (by omega)
      have hg2 : Nat.gcd (kgN fk (cs j) bn) fl ≤ fl := Nat.le_of_dvd (by omega) (Nat.gcd_dvd_right _ _)
      have hn : ¬ lN (Nat.gcd (kgN fk (cs j) bn) fl) ≤ 0 := fun w => by
        have := (lN_le (b := 0) (by omega) (by decide)).mp w
        omega
      unfold fdT fdB
      rw [fd_ok (by omega) (by omega) (by omega), if_neg hn, if_neg hn]
  · rw [if_neg q, fr_nth0 hbn hcc h q, if_pos (show (none : Option Nat).getD 0 = 0 ∨ fl = 0 from Or.inl rfl)]
end SH
