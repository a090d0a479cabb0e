/-! one more bin: a row or none, in both alike -/
/-- the town of the class and that of the reference -/
def TwR (tl : Int64) (tk : Nat → Int64) (tbs : Nat → Int32) (S : Nat → Nat → Int32) (Cc : Nat → Nat → Int64) (lo : Nat) (kn : Nat → Nat) (W B C : Nat → Int32) : Prop :=
  tl = lN lo ∧ lo ≤ 6000 ∧ (∀ j, j < 6 → tk j = lN (kn j)) ∧ (∀ j, j < 6 → kn j ≤ 1000) ∧ (∀ j, j < 6 → tbs j = B j ∧ ∃ n, n ≤ 1000 ∧ B j = nI n) ∧ (∀ a b, a < 7 → b < 7 → S a b = W (7 * a + b) ∧ Cc a b = (C (7 * a + b)).toInt64) ∧ (∀ j, j < 49 → W j = -1 ∨ ∃ n, n ≤ 1000 ∧ W j = nI n) ∧ CoW C
/-- a beginning that is a row -/
def Pfx (lo : Nat) (kn : Nat → Nat) (W B C : Nat → Int32) (rw : Nat → Nat) (l : Nat) (sp : Int32) (pd : Int64) : Prop := secO W B rw l 0 0 = some sp ∧ (∃ a, a ≤ 2000 * l ∧ sp = nI a) ∧ kilN kn rw l ≤ lo ∧ pd = lN (csN C rw l)
theorem pfx_congr {lo : Nat} {kn : Nat → Nat} {W B C : Nat → Int32} {rw rv : Nat → Nat} {l : Nat} {sp : Int32} {pd : Int64} (h : ∀ j, j < l → rw j = rv j) (hp : Pfx lo kn W B C rw l sp pd) : Pfx lo kn W B C rv l sp pd := by
  obtain ⟨h1, h2, h3, h4⟩ := hp
  refine ⟨?_, h2, ?_, ?_⟩
  · rw [← h1]; exact (secO_congr l 0 0 (fun j hj => h j (by omega))).symm
  · rw [← kilN_congr l h]; exact h3
  · rw [← csN_congr l h]; exact h4
theorem frM_lo {rw rv : Nat → Nat} {i : Nat} (h : ∀ j, j < i → rw j = rv j) : frM rw i = frM rv i := by
  unfold frM
  split
  · rfl
  · rw [h (i - 1) (by omega)]
theorem frm_M {row rw : Nat → Nat} {l : Nat} (h : ∀ j, j < l → row j = rw j) : frm row l = frM rw l := by
  unfold frm frM
  split
  · rfl
  · rw [h (l - 1) (by omega)]; omega
theorem nI_nn {a : Nat} (h : a < 2 ^ 31) : ¬ nI a < 0 := fun q => absurd ((nI_ltI h (by decide)).mp (show nI a < nI 0 from q)) (Nat.not_lt_zero a)
section FE
variable {tl : Int64} {tk : Nat → Int64} {tbs : Nat → Int32} {S : Nat → Nat → Int32} {Cc : Nat → Nat → Int64} {lo : Nat} {kn : Nat → Nat} {W B C : Nat → Int32} {tm : Int32} {bn l b : Nat} {rw row : Nat → Nat} {sp : Int32} {pd : Int64} {kg : Nat → Int64}
theorem feas (hT : TwR tl tk tbs S Cc lo kn W B C) (hbn : bn ≤ 6) (hkg : ∀ j, j < 2 ^ bn → kg j = wsum tk j bn) (h6 : ∀ j, j < 6 → rw j < 6) (hl : l < 6) (hR : Rok bn rw l) (hb : b < bn) (hnb : ¬ (msk rw l).testBit b = true) (hrow : ∀ j, j < l → row j = rw j) (hp : Pfx lo kn W B C rw l sp pd) :
    (S (frm row l) (1 + b) = -1 ∨ tl < kg (msk rw l ||| 2 ^ b) → ¬ rowB (bsI kn) W B (nI lo) tm (upN rw l b) (l + 1)) ∧
    (¬ (S (frm row l) (1 + b) = -1 ∨ tl < kg (msk rw l ||| 2 ^ b)) → (rowB (bsI kn) W B (nI lo) tm (upN rw l b) (l + 1) ↔ sp + S (frm row l) (1 + b) + tbs b ≤ tm) ∧ Pfx lo kn W B C (upN rw l b) (l + 1) (sp + S (frm row l) (1 + b) + tbs b) (pd + Cc (frm row l) (1 + b))) := by
  obtain ⟨t1, t2, t3, t4, t5, t6, t7, t8⟩ := hT
  obtain ⟨p1, ⟨a, ha, rfl⟩, p3, p4⟩ := hp
  have h61 : ∀ j, j < 6 → upN rw l b j < 6 := up6 h6 (by omega)
  have hR1 : Rok bn (upN rw l b) (l + 1) := rok_up hR hb (fun i hi e => hnb (msk_bit.mpr ⟨i, hi, e⟩))
  have efr : frm row l = frM rw l := frm_M hrow
  have efr1 : frM (upN rw l b) l = frM rw l := (frM_lo upN_lo).symm
  have hfl := frM_lt h6 hl
  have e1 : upN rw l b l = b := upN_at
  have em : msk (upN rw l b) (l + 1) = msk rw l ||| 2 ^ b := by
    simp only [msk]; rw [e1, ← msk_congr l upN_lo]
  have hix : 7 * frM (upN rw l b) l + upN rw l b l + 1 = 7 * frM rw l + (1 + b) := by rw [efr1, e1]; omega
  obtain ⟨eS, eC⟩ := t6 (frM rw l) (1 + b) (by omega) (by omega)
  have hwt : 7 * frM rw l + (1 + b) < 49 := by omega
  have hlt : msk (upN rw l b) (l + 1) < 2 ^ bn := by
    have z : ∀ n, n ≤ l + 1 → msk (upN rw l b) n < 2 ^ bn := by
      intro n
      induction n with
      | zero => intro _; exact Nat.pow_pos (by decide)
      | succ n ih => intro hn; simp only [msk]; exact Nat.or_lt_two_pow (ih (by omega)) (Nat.pow_lt_pow_right (by decide) (hR1.1 n (by omega)))
    exact z (l + 1) (Nat.le_refl _)
  have ekg : kg (msk rw l ||| 2 ^ b) = lN (kilN kn (upN rw l b) (l + 1)) := by
    rw [← em, hkg _ hlt]
    exact wsum_N t3 hbn (l + 1) hR1
  have hkl := kilN_le t4 h61 (l + 1) (by omega)
  have esec : secO W B (upN rw l b) (l + 1) 0 0 = if W (7 * frM rw l + (1 + b)) < 0 then none else some (nI a + (W (7 * frM rw l + (1 + b)) + B b)) := by
    rw [secO_snoc l 0 0, ← secO_congr (rw := rw) l 0 0 (fun j hj => upN_lo j (by omega)), p1, Nat.zero_add, hix, e1]
    rfl
  rw [efr, eS, ekg, t1]
  have kN : kilF (bsI kn) (upN rw l b) (l + 1) = nI (kilN kn (upN rw l b) (l + 1)) := kilF_N (l + 1)
  constructor
  · rintro (h | h) ⟨q1, q2, q3⟩
    · rw [secF_O, esec, h, if_pos (by decide)] at q2
      exact absurd q2 (by decide)
    · rw [kN] at q1
      have := (nI_leI (by omega) (by omega)).mp q1
      have := (lN_lt (by omega) (by omega)).mp h
      omega
  · intro h
    have hw : ¬ W (7 * frM rw l + (1 + b)) = -1 := fun q => h (Or.inl q)
    have hk : ¬ lN lo < lN (kilN kn (upN rw l b) (l + 1)) := fun q => h (Or.inr q)
    have hk : kilN kn (upN rw l b) (l + 1) ≤ lo := by
      apply Classical.byContradiction
      intro q
      exact hk ((lN_lt (by omega) (by omega)).mpr (by omega))
    obtain ⟨w, hw1, hw2⟩ : ∃ n, n ≤ 1000 ∧ W (7 * frM rw l + (1 + b)) = nI n := (t7 _ hwt).elim (fun q => absurd q hw) id
    obtain ⟨eB, v, hv1, hv2⟩ := t5 b (by omega)
    have e5 : secO W B (upN rw l b) (l + 1) 0 0 = some (nI a + nI w + B b) := by
      rw [esec, hw2, if_neg (nI_nn (by omega)), Int32.add_assoc]
    have e6 : nI a + nI w + B b = nI (a + w + v) := by rw [hv2, nI_add, nI_add]
    rw [hw2, eB]
    refine ⟨⟨fun q => ?_, fun q => ⟨?_, ?_, ?_⟩⟩, e5, ⟨a + w + v, by omega, e6⟩, hk, ?_⟩
    · have := q.2.2
      rw [secF_O, e5] at this
      exact this
    · rw [kN]
      exact (nI_leI (by omega) (by omega)).mpr hk
    · rw [secF_O, e5]
      show (0 : Int32) ≤ nI a + nI w + B b
      rw [e6]
      exact Int32.not_lt.mp (nI_nn (by omega))
    · rw [secF_O, e5]
      exact q
    · rw [p4, eC, (cN_ok t8 hwt).1, nIl (by have := (cN_ok t8 hwt).2; omega), lN_add]
      simp only [csN]
      rw [← csN_congr l upN_lo, hix]
end FE
/-- one set: its cost and its list -/
def CR (ro : Nat) (co : Int64) (od : Nat → Nat) (cost : Int32) (li : Nat → Int32) (st : Nat) : Prop := (ro = 0 ∧ cost = -1) ∨ (¬ ro = 0 ∧ ∃ c, c ≤ 14000 ∧ co = lN c ∧ cost = nI c ∧ ∀ i, i < 6 → li (6 * st + i) = if i < pcn st then nI (od (st * 6 + i)) else -1)
/-- what both have found -/
def RelP (bn : Nat) (x : SR) (z : ZT) : Prop :=
  (∀ st b, st < 64 → b < 6 → z.1 (6 * st + b) = if (x.2.1 st).testBit b then 1 else 0) ∧
  (∀ st b, st < 64 → b < 6 → z.2.1 (6 * st + b) = if (x.2.2.1 st).testBit b then 1 else 0) ∧
  (∀ st, st < 64 → CR (x.2.2.1 st) (x.2.2.2.1 st) x.2.2.2.2 (z.2.2.1 st) z.2.2.2.1 st) ∧
  z.2.2.2.2 = nI (cntF (fun j => decide (¬ z.1 j = 0)) 384 0) ∧
  (∀ st, st < 64 → (st = 0 ∨ 2 ^ bn ≤ st) → x.2.1 st = 0 ∧ x.2.2.1 st = 0)
theorem bit_up {f : Nat → Int32} {g : Nat → Nat} {s1 b1 : Nat} (h : ∀ st b, st < 64 → b < 6 → f (6 * st + b) = if (g st).testBit b then 1 else 0) (hb : b1 < 6) : ∀ st b, st < 64 → b < 6 → upd f (6 * s1 + b1) 1 (6 * st + b) = if (upN g s1 (g s1 ||| 2 ^ b1) st).testBit b then 1 else 0 := fun st b hs hb' => by
  by_cases q : st = s1
  · subst q
    rw [upN_at, Nat.testBit_or, Nat.testBit_two_pow]
    by_cases r : b = b1
    · subst r; rw [pk_us]; simp
    · rw [pk_un (by omega), h st b hs hb', decide_eq_false (by omega), Bool.or_false]
  · rw [upN_ne q, pk_un (by omega), h st b hs hb']
theorem cnt_one {p q : Nat → Bool} {k : Nat} (h : ∀ j, ¬ j = k → q j = p j) (hk : q k = true) : ∀ f b, cntF q f b = cntF p f b + (if b ≤ k ∧ k < b + f ∧ p k = false then 1 else 0)
  | 0, b => by
    rw [if_neg (by omega)]; rfl
  | f + 1, b => by
    simp only [cntF]
    rw [cnt_one h hk f (b + 1)]
    by_cases e : b = k
    · subst e
      rw [hk, if_neg (show ¬ (b + 1 ≤ b ∧ b < b + 1 + f ∧ p b = false) by omega)]
      cases hp : p b with
      | true => simp
      | false => rw [if_pos (show b ≤ b ∧ b < b + (f + 1) ∧ false = false from ⟨Nat.le_refl _, by omega, rfl⟩)]; simp; omega
    · rw [h b e]
      by_cases c1 : b + 1 ≤ k ∧ k < b + 1 + f ∧ p k = false
      · rw [if_pos c1, if_pos (show b ≤ k ∧ k < b + (f + 1) ∧ p k = false from ⟨by omega, by omega, c1.2.2⟩)]; omega
      · rw [if_neg c1, if_neg (show ¬ (b ≤ k ∧ k < b + (f + 1) ∧ p k = false) from fun c2 => c1 ⟨by omega, by omega, c2.2.2⟩)]; omega
theorem lab_up {f : Nat → Int32} {k : Nat} {v : Int32} (hk : k < 384) (h : v = nI (cntF (fun j => decide (¬ f j = 0)) 384 0)) : v + (if f k = 0 then 1 else 0) = nI (cntF (fun j => decide (¬ upd f k 1 j = 0)) 384 0) := by
  rw [cnt_one (p := fun j => decide (¬ f j = 0)) (k := k) (fun j hj => by simp only [pk_un hj]) (by rw [pk_us]; decide) 384 0, h]
  by_cases e : f k = 0
  · rw [if_pos e, if_pos ⟨by omega, by omega, by simp [e]⟩]; exact nI_add _ 1
  · rw [if_neg e, if_neg (by simp [e])]; exact nI_add _ 0
theorem pcn_or : ∀ st, st < 64 → ∀ b, b < 6 → st.testBit b = false → pcn (st ||| 2 ^ b) = pcn st + 1 := by decide +kernel
theorem pcn_msk {bn : Nat} {rw : Nat → Nat} (hbn : bn ≤ 6) : ∀ l, l ≤ 6 → Rok bn rw l → (msk rw l < 64 ∧ pcn (msk rw l) = l)
  | 0, _, _ => by show 0 < 64 ∧ pcn 0 = 0; decide
  | l + 1, hl, hR => by
    obtain ⟨h1, h2⟩ := pcn_msk hbn l (by omega) (rok_le hR (by omega))
    have hb := hR.1 l (by omega)
    have hn : (msk rw l).testBit (rw l) = false := by
      cases q : (msk rw l).testBit (rw l) with
      | false => rfl
      | true => obtain ⟨i, g1, g2⟩ := msk_bit.mp q; exact absurd g2 (hR.2 i l g1 (by omega))
    simp only [msk]
    refine ⟨or_64 h1 (by omega), ?_⟩
    rw [pcn_or _ h1 _ (by omega) hn, h2]
