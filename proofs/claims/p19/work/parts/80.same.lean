/-! the search of the class and that of the reference find the same -/
abbrev ZT := (Nat → Int32) × (Nat → Int32) × (Nat → Int32) × (Nat → Int32) × Int32
section FU
variable {K W B C : Nat → Int32} {ld tm : Int32} {bn n l fr b : Nat} {rw : Nat → Nat} {z : ZT}
theorem scF_no {ln : Nat} {x : ZT} (h : nxT bn rw ln (if rowB K W B ld tm rw ln then 1 else 0) = none) : scF K W B C ld tm bn (n + 1) rw ln x = (rw, scU K W B C ld tm rw ln x) := by
  simp only [scF, h]
theorem scF_fuel (hbn : bn ≤ 6) : ∀ (n : Nat) (rw : Nat → Nat) (ln : Nat) (x : ZT), (∀ j, j < 6 → rw j < 6) → ln ≤ 6 → Rok bn rw ln → 7 ^ 7 ≤ n + cdr rw ln → scF K W B C ld tm bn (n + 1) rw ln x = scF K W B C ld tm bn n rw ln x
  | 0, rw, ln, x, h6, hl, _, hn => by
    have := cdr_lt h6 ln hl
    have := Nat.pow_pos (n := 7 - ln) (show 0 < 7 by decide)
    omega
  | n + 1, rw, ln, x, h6, hl, hR, hn => by
    cases h : nxT bn rw ln (if rowB K W B ld tm rw ln then 1 else 0) with
    | none => rw [scF_no h, scF_no h]
    | some q =>
      obtain ⟨p, b⟩ := q
      rw [scF_go rfl rfl h, scF_go rfl rfl h]
      obtain ⟨a1, a2, a3, a4⟩ := nxT_ok hbn h6 hl hR h
      exact scF_fuel hbn n _ _ _ (up6 h6 (by omega)) (by omega) a3 (by omega)
/-- the rest of the rows: from the bin fr on at place l -/
def NXr (K W B C : Nat → Int32) (ld tm : Int32) (bn n l fr : Nat) (rw : Nat → Nat) (z : ZT) : (Nat → Nat) × ZT := match nxL bn rw l fr with
  | none => (rw, z)
  | some (p, b) => scF K W B C ld tm bn n (upN rw p b) (p + 1) z
/-- what comes when place l is through -/
def PPr (K W B C : Nat → Int32) (ld tm : Int32) (bn n l : Nat) (rw : Nat → Nat) (z : ZT) : (Nat → Nat) × ZT := if l = 0 then (rw, z) else NXr K W B C ld tm bn n (l - 1) (rw (l - 1) + 1) rw z
theorem nx_hit (h : fst bn (msk rw l) fr = some b) : NXr K W B C ld tm bn n l fr rw z = scF K W B C ld tm bn n (upN rw l b) (l + 1) z := by
  unfold NXr; rw [nxL_hit h]
theorem nx_pop (h : fst bn (msk rw l) fr = none) : NXr K W B C ld tm bn n l fr rw z = PPr K W B C ld tm bn n l rw z := by
  unfold PPr NXr
  by_cases q : l = 0
  · subst q; rw [if_pos rfl, nxL_end h]
  · rw [if_neg q, nxL_pop (by omega) h]
theorem nx_skip (h : fr < bn) (hb : (msk rw l).testBit fr = true) : NXr K W B C ld tm bn n l fr rw z = NXr K W B C ld tm bn n l (fr + 1) rw z := by
  have e : nxL bn rw l fr = nxL bn rw l (fr + 1) := by
    cases l <;> simp only [nxL, fst_step h hb]
  unfold NXr
  rw [e]
theorem sc_in (hbn : bn ≤ 6) (hn : 7 ^ 7 ≤ n) (h6 : ∀ j, j < 6 → rw j < 6) (hl : l + 1 ≤ 6) (hR : Rok bn rw (l + 1)) (h : rowB K W B ld tm rw (l + 1)) : scF K W B C ld tm bn n rw (l + 1) z = NXr K W B C ld tm bn n (l + 1) 0 rw (scU K W B C ld tm rw (l + 1) z) := by
  rw [← scF_fuel hbn n rw (l + 1) z h6 hl hR (by omega)]
  have e : nxT bn rw (l + 1) (if rowB K W B ld tm rw (l + 1) then 1 else 0) = nxL bn rw (l + 1) 0 := by
    rw [if_pos h]
    unfold nxT
    rw [if_neg (fun q => q.1 (by decide))]
  unfold NXr
  cases h2 : nxL bn rw (l + 1) 0 with
  | none => rw [scF_no (e.trans h2)]
  | some q => obtain ⟨p, b⟩ := q; rw [scF_go rfl rfl (e.trans h2)]
theorem sc_out (hbn : bn ≤ 6) (hn : 7 ^ 7 ≤ n) (h6 : ∀ j, j < 6 → rw j < 6) (hl : l + 1 ≤ 6) (hR : Rok bn rw (l + 1)) (h : ¬ rowB K W B ld tm rw (l + 1)) : scF K W B C ld tm bn n rw (l + 1) z = NXr K W B C ld tm bn n l (rw l + 1) rw z := by
  rw [← scF_fuel hbn n rw (l + 1) z h6 hl hR (by omega)]
  have e : nxT bn rw (l + 1) (if rowB K W B ld tm rw (l + 1) then 1 else 0) = nxL bn rw l (rw l + 1) := by
    rw [if_neg h]
    unfold nxT
    rw [if_pos ⟨fun q => q rfl, by omega⟩]
    rfl
  have u : scU K W B C ld tm rw (l + 1) z = z := by unfold scU; rw [if_neg h]
  unfold NXr
  cases h2 : nxL bn rw l (rw l + 1) with
  | none => rw [scF_no (e.trans h2), u]
  | some q => obtain ⟨p, b⟩ := q; rw [scF_go rfl rfl (e.trans h2), u]
end FU
/-! seconds, kilograms and costs of a row -/
def secO (W B : Nat → Int32) (rw : Nat → Nat) : Nat → Nat → Int32 → Option Int32
  | 0, _, s => some s
  | n + 1, i, s => if W (7 * frM rw i + rw i + 1) < 0 then none else secO W B rw n (i + 1) (s + (W (7 * frM rw i + rw i + 1) + B (rw i)))
theorem secF_O {W B : Nat → Int32} {rw : Nat → Nat} : ∀ (n i : Nat) (s : Int32), secF W B rw n i s = (secO W B rw n i s).getD (-1)
  | 0, _, _ => rfl
  | n + 1, i, s => by
    simp only [secF, secO]
    split
    · rfl
    · exact secF_O n (i + 1) _
theorem secO_snoc {W B : Nat → Int32} {rw : Nat → Nat} : ∀ (n i : Nat) (s : Int32), secO W B rw (n + 1) i s = (secO W B rw n i s).bind (fun t => if W (7 * frM rw (i + n) + rw (i + n) + 1) < 0 then none else some (t + (W (7 * frM rw (i + n) + rw (i + n) + 1) + B (rw (i + n)))))
  | 0, i, s => by
    simp only [secO, Option.bind_some, Nat.add_zero]
  | n + 1, i, s => by
    rw [secO]
    conv => rhs; rw [secO]
    split
    · rfl
    · rw [secO_snoc n (i + 1), show i + 1 + n = i + (n + 1) by omega]
theorem frM_congr {rw rv : Nat → Nat} {i : Nat} (h : ∀ j, j < i + 1 → rw j = rv j) : frM rw i = frM rv i := by
  unfold frM
  split
  · rfl
  · rw [h (i - 1) (by omega)]
theorem secO_congr {W B : Nat → Int32} {rw rv : Nat → Nat} : ∀ (n i : Nat) (s : Int32), (∀ j, j < i + n → rw j = rv j) → secO W B rw n i s = secO W B rv n i s
  | 0, _, _, _ => rfl
  | n + 1, i, s, h => by
    simp only [secO]
    rw [frM_congr (rw := rw) (rv := rv) (i := i) (fun j hj => h j (by omega)), h i (by omega), secO_congr n (i + 1) _ (fun j hj => h j (by omega))]
def kilN (kn rw : Nat → Nat) : Nat → Nat
  | 0 => 0
  | i + 1 => kilN kn rw i + kn (rw i)
theorem kilN_le {kn rw : Nat → Nat} (hk : ∀ j, j < 6 → kn j ≤ 1000) (h6 : ∀ j, j < 6 → rw j < 6) : ∀ n, n ≤ 6 → kilN kn rw n ≤ 1000 * n
  | 0, _ => Nat.le_refl _
  | n + 1, hn => by
    have := kilN_le hk h6 n (by omega)
    have := hk (rw n) (h6 n (by omega))
    simp only [kilN]; omega
theorem kilN_congr {kn rw rv : Nat → Nat} : ∀ n, (∀ j, j < n → rw j = rv j) → kilN kn rw n = kilN kn rv n
  | 0, _ => rfl
  | n + 1, h => by simp only [kilN]; rw [kilN_congr n (fun j hj => h j (by omega)), h n (by omega)]
theorem kilF_N {kn rw : Nat → Nat} : ∀ n, kilF (bsI kn) rw n = nI (kilN kn rw n)
  | 0 => rfl
  | n + 1 => by
    simp only [kilF, kilN]
    rw [kilF_N n]
    exact nI_add _ _
theorem msk_congr {rw rv : Nat → Nat} : ∀ n, (∀ j, j < n → rw j = rv j) → msk rw n = msk rv n
  | 0, _ => rfl
  | n + 1, h => by simp only [msk]; rw [msk_congr n (fun j hj => h j (by omega)), h n (by omega)]
theorem upN_at {f : Nat → Nat} {k x : Nat} : upN f k x k = x := by unfold upN; rw [if_pos rfl]
theorem upN_ne {f : Nat → Nat} {k x j : Nat} (h : ¬ j = k) : upN f k x j = f j := by unfold upN; rw [if_neg h]
theorem upN_lo {f : Nat → Nat} {k x : Nat} : ∀ j, j < k → f j = upN f k x j := fun j hj => (upN_ne (by omega)).symm
theorem wsum_or {tk : Nat → Int64} {st b : Nat} (h : ¬ st.testBit b = true) : ∀ n, wsum tk (st ||| 2 ^ b) n = wsum tk st n + (if b < n then tk b else 0)
  | 0 => by show (0 : Int64) = 0 + 0; decide
  | n + 1 => by
    simp only [wsum]
    rw [wsum_or h n, Nat.testBit_or, Nat.testBit_two_pow]
    by_cases q : b = n
    · subst q
      have h' : st.testBit b = false := by simpa using h
      rw [h']
      simp
    · rw [decide_eq_false q, Bool.or_false]
      by_cases g : b < n
      · rw [if_pos g, if_pos (show b < n + 1 by omega)]
        rw [Int64.add_assoc, Int64.add_assoc, Int64.add_comm (tk b)]
      · rw [if_neg g, if_neg (show ¬ b < n + 1 by omega)]
        rw [Int64.add_zero, Int64.add_zero]
theorem wsum_0 {tk : Nat → Int64} : ∀ n, wsum tk 0 n = 0
  | 0 => rfl
  | n + 1 => by simp only [wsum]; rw [wsum_0 n, Nat.zero_testBit]; rfl
theorem wsum_N {tk : Nat → Int64} {kn rw : Nat → Nat} {bn : Nat} (hk : ∀ j, j < 6 → tk j = lN (kn j)) (hbn : bn ≤ 6) : ∀ l, Rok bn rw l → wsum tk (msk rw l) bn = lN (kilN kn rw l)
  | 0, _ => wsum_0 bn
  | l + 1, hR => by
    simp only [msk, kilN]
    have hb := hR.1 l (by omega)
    rw [wsum_or (fun q => by obtain ⟨i, h1, h2⟩ := msk_bit.mp q; exact hR.2 i l h1 (by omega) h2), if_pos hb, wsum_N hk hbn l (rok_le hR (by omega)), hk _ (by omega), lN_add]
/-- what the ways cost, as naturals -/
def cN (C : Nat → Int32) (j : Nat) : Nat := (C j).toInt.toNat
theorem cN_ok {C : Nat → Int32} (h : CoW C) {j : Nat} (hj : j < 49) : C j = nI (cN C j) ∧ cN C j ≤ 2000 := by
  obtain ⟨h1, h2⟩ := h j hj
  have e : ((C j).toInt.toNat : Int) = (C j).toInt := Int.toNat_of_nonneg h1
  refine ⟨?_, by unfold cN; omega⟩
  apply Int32.toInt_inj.mp
  show _ = (Int32.ofNat _).toInt
  rw [Int32.toInt_ofNat_of_lt (by unfold cN; omega)]
  exact e.symm
theorem nIl {x : Nat} (h : x < 2 ^ 31) : (nI x).toInt64 = lN x := by
  apply Int64.toInt_inj.mp
  rw [Int32.toInt_toInt64]
  have e1 : (nI x).toInt = x := Int32.toInt_ofNat_of_lt h
  have e2 : (lN x).toInt = x := Int64.toInt_ofNat_of_lt (by omega)
  rw [e1, e2]
def csN (C : Nat → Int32) (rw : Nat → Nat) : Nat → Nat
  | 0 => 0
  | i + 1 => csN C rw i + cN C (7 * frM rw i + rw i + 1)
theorem way_lt {rw : Nat → Nat} (h6 : ∀ j, j < 6 → rw j < 6) {i : Nat} (hi : i < 6) : 7 * frM rw i + rw i + 1 < 49 := by
  have := frM_lt h6 hi
  have := h6 i hi
  omega
theorem csN_le {C : Nat → Int32} {rw : Nat → Nat} (hC : CoW C) (h6 : ∀ j, j < 6 → rw j < 6) : ∀ n, n ≤ 6 → csN C rw n ≤ 2000 * n
  | 0, _ => Nat.le_refl _
  | n + 1, hn => by
    have := csN_le hC h6 n (by omega)
    have := (cN_ok hC (way_lt h6 (i := n) (by omega))).2
    simp only [csN]; omega
theorem csN_congr {C : Nat → Int32} {rw rv : Nat → Nat} : ∀ n, (∀ j, j < n → rw j = rv j) → csN C rw n = csN C rv n
  | 0, _ => rfl
  | n + 1, h => by
    simp only [csN]
    rw [csN_congr n (fun j hj => h j (by omega)), frM_congr (rw := rw) (rv := rv) (i := n) (fun j hj => h j (by omega)), h n (by omega)]
theorem cosS_N {C : Nat → Int32} {rw : Nat → Nat} (hC : CoW C) (h6 : ∀ j, j < 6 → rw j < 6) {ln : Nat} (h1 : 1 ≤ ln) (hl : ln ≤ 6) : ∀ i, i ≤ ln → cosS C rw ln i = nI (cN C (7 * (rw (ln - 1) + 1)) + csN C rw i)
  | 0, _ => by
    have a := h6 (ln - 1) (by omega)
    exact (cN_ok hC (show 7 * (rw (ln - 1) + 1) < 49 by omega)).1
  | i + 1, hi => by
    simp only [cosS, csN]
    rw [cosS_N hC h6 h1 hl i (by omega), (cN_ok hC (way_lt h6 (i := i) (by omega))).1, nI_add]
    congr 1
    omega
