/-! what is found, asked of both -/
theorem wsum_kgN {tk : Nat → Int64} {kn : Nat → Nat} {st : Nat} (h : ∀ j, j < 6 → tk j = lN (kn j)) : ∀ b, b ≤ 6 → wsum tk st b = lN (kgN kn st b)
  | 0, _ => rfl
  | b + 1, hb => by
    simp only [wsum, kgN]
    rw [wsum_kgN h b (by omega), h b (by omega)]
    split
    · exact lN_add _ _
    · exact lN_add _ 0
/-- the found rounds of the class and what the reference has found -/
def FR (bn : Nat) (ld : Int64) (lc cc : Nat) (cs : Nat → Nat) (kg : Nat → Int64) (re ro : Nat → Nat) (co : Nat → Int64) (od : Nat → Nat) (wr : Int32) (fb fl : Nat) (fk : Nat → Nat) (rows rounds costs lists : Nat → Int32) (fd : Int32) : Prop :=
  bn = fb ∧ ld = lN fl ∧ (∀ j, j < 2 ^ bn → kg j = lN (kgN fk j bn)) ∧ RelP bn (fun _ => 0, re, ro, co, od) (rows, rounds, costs, lists, nI (cntF (fun j => decide (¬ rows j = 0)) 384 0)) ∧ lc = lbl re (2 ^ bn - 1) 1 ∧ (∃ c0, (cc, cs) = lsC ro (2 ^ bn - 1) 1 (0, c0)) ∧ wr = fd ∧ (fd = 1 ∨ (fd = 0 ∧ bn = 0))
theorem cnt_add {p : Nat → Bool} : ∀ a b s, cntF p (a + b) s = cntF p a s + cntF p b (s + a)
  | 0, b, s => by rw [Nat.zero_add]; simp [cntF]
  | a + 1, b, s => by
    rw [show a + 1 + b = (a + b) + 1 by omega]
    simp only [cntF]
    rw [cnt_add a b (s + 1), show s + 1 + a = s + (a + 1) by omega]
    omega
theorem cnt_eq {p q : Nat → Bool} : ∀ f s t, (∀ i, i < f → p (s + i) = q (t + i)) → cntF p f s = cntF q f t
  | 0, _, _, _ => rfl
  | f + 1, s, t, h => by
    simp only [cntF]
    have h0 := h 0 (by omega)
    rw [Nat.add_zero, Nat.add_zero] at h0
    rw [h0, cnt_eq f (s + 1) (t + 1) (fun i hi => by have := h (i + 1) (by omega); rw [show s + 1 + i = s + (i + 1) by omega, show t + 1 + i = t + (i + 1) by omega]; exact this)]
theorem cnt_no {p : Nat → Bool} : ∀ f s, (∀ i, i < f → p (s + i) = false) → cntF p f s = 0
  | 0, _, _ => rfl
  | f + 1, s, h => by
    simp only [cntF]
    have h0 := h 0 (by omega)
    rw [Nat.add_zero] at h0
    rw [h0, cnt_no f (s + 1) (fun i hi => by have := h (i + 1) (by omega); rw [show s + 1 + i = s + (i + 1) by omega]; exact this)]
    rfl
theorem pcn_cnt : ∀ k, k < 64 → pcn k = cntF (fun b => k.testBit b) 6 0 := by decide +kernel
theorem lbl_cnt {re : Nat → Nat} {p : Nat → Bool} (h : ∀ st b, st < 64 → b < 6 → p (6 * st + b) = (re st).testBit b) (hre : ∀ j, j < 64 → re j < 64) : ∀ f s, s + f ≤ 64 → cntF p (6 * f) (6 * s) = lbl re f s
  | 0, _, _ => rfl
  | f + 1, s, hs => by
    rw [show 6 * (f + 1) = 6 + 6 * f by omega, cnt_add, show 6 * s + 6 = 6 * (s + 1) by omega, lbl_cnt h hre f (s + 1) (by omega)]
    simp only [lbl]
    rw [pcn_cnt _ (hre s (by omega)), cnt_eq (p := p) (q := fun b => (re s).testBit b) 6 (6 * s) 0 (fun i hi => by rw [Nat.zero_add]; exact h s i (by omega) hi)]
theorem lbl_add {re : Nat → Nat} : ∀ a b s, lbl re (a + b) s = lbl re a s + lbl re b (s + a)
  | 0, b, s => by rw [Nat.zero_add]; simp [lbl]
  | a + 1, b, s => by
    rw [show a + 1 + b = (a + b) + 1 by omega]
    simp only [lbl]
    rw [lbl_add a b (s + 1), show s + 1 + a = s + (a + 1) by omega]
    omega
theorem lbl_no {re : Nat → Nat} : ∀ f s, (∀ i, i < f → re (s + i) = 0) → lbl re f s = 0
  | 0, _, _ => rfl
  | f + 1, s, h => by
    simp only [lbl]
    have h0 := h 0 (by omega)
    rw [Nat.add_zero] at h0
    rw [h0, lbl_no f (s + 1) (fun i hi => by have := h (i + 1) (by omega); rw [show s + 1 + i = s + (i + 1) by omega]; exact this)]
    rfl
theorem p64 {bn : Nat} (h : bn ≤ 6) : 1 ≤ 2 ^ bn ∧ 2 ^ bn ≤ 64 := ⟨Nat.one_le_two_pow, Nat.le_trans (Nat.pow_le_pow_right (by decide) h) (by decide)⟩
/-- as many labels -/
theorem rel_lab {bn : Nat} {x : SR} {z : ZT} (hbn : bn ≤ 6) (h : RelP bn x z) (hre : ∀ j, j < 64 → x.2.1 j < 64) : cntF (fun j => decide (¬ z.1 j = 0)) 384 0 = lbl x.2.1 (2 ^ bn - 1) 1 := by
  obtain ⟨r1, -, -, -, r5⟩ := h
  obtain ⟨h1, h2⟩ := p64 hbn
  have e := lbl_cnt (re := x.2.1) (p := fun j => decide (¬ z.1 j = 0)) (fun st b hs hb => by
    show decide (¬ z.1 (6 * st + b) = 0) = _
    rw [r1 st b hs hb]
    cases q : (x.2.1 st).testBit b <;> simp) hre 64 0 (by omega)
  have e' : cntF (fun j => decide (¬ z.1 j = 0)) 384 0 = lbl x.2.1 64 0 := e
  rw [e', show 64 = 1 + ((2 ^ bn - 1) + (64 - 2 ^ bn)) by omega, lbl_add, lbl_add, lbl_no 1 0 (fun i hi => by rw [show 0 + i = 0 by omega]; exact (r5 0 (by omega) (Or.inl rfl)).1), lbl_no (64 - 2 ^ bn) _ (fun i hi => (r5 _ (by omega) (Or.inr (by omega))).1)]
  simp only [Nat.zero_add]
  omega
/-- the listed sets, and the n-th of those that are columns -/
theorem lsC_cnt {ro : Nat → Nat} : ∀ f b q c, (lsC ro f b (q, c)).1 = q + cntF (fun st => decide (¬ ro st = 0)) f b
  | 0, _, _, _ => rfl
  | f + 1, b, q, c => by
    simp only [lsC, cntF]
    by_cases h : ro b = 0
    · rw [if_pos h, lsC_cnt f (b + 1) q c]; simp [h]
    · rw [if_neg h, lsC_cnt f (b + 1) (q + 1) _]; simp [h]; omega
theorem lsC_lo {ro : Nat → Nat} : ∀ f b q c j, j < q → (lsC ro f b (q, c)).2 j = c j
  | 0, _, _, _, _, _ => rfl
  | f + 1, b, q, c, j, hj => by
    simp only [lsC]
    by_cases h : ro b = 0
    · rw [if_pos h]; exact lsC_lo f (b + 1) q c j hj
    · rw [if_neg h, lsC_lo f (b + 1) (q + 1) _ j (by omega)]; exact upN_ne (by omega)
theorem nI_inj {a b : Nat} (ha : a < 2 ^ 31) (hb : b < 2 ^ 31) (h : nI a = nI b) : a = b := by
  have h1 := (nI_leI ha hb).mp (by rw [h]; exact Int32.le_refl _)
  have h2 := (nI_leI hb ha).mp (by rw [h]; exact Int32.le_refl _)
  omega
theorem lsC_nth {ro : Nat → Nat} {p : Nat → Bool} : ∀ f b q c j, (∀ i, i < f → p (b + i) = decide (¬ ro (b + i) = 0)) → q ≤ j → j < (lsC ro f b (q, c)).1 → (lsC ro f b (q, c)).1 < 2 ^ 31 → nthP p (nI j) f b q = some ((lsC ro f b (q, c)).2 j)
  | 0, _, _, _, _, _, h1, h2, _ => absurd (show _ < _ from h2) (by simp only [lsC]; omega)
  | f + 1, b, q, c, j, hp, h1, h2, h3 => by
    have h0 := hp 0 (by omega)
    rw [Nat.add_zero] at h0
    have hp' : ∀ i, i < f → p (b + 1 + i) = decide (¬ ro (b + 1 + i) = 0) := fun i hi => by have := hp (i + 1) (by omega); rw [show b + 1 + i = b + (i + 1) by omega]; exact this
    simp only [lsC] at h2 h3
    simp only [lsC, nthP]
    by_cases h : ro b = 0
    · rw [if_pos h] at h2 h3
      rw [if_pos h, if_neg (by rw [h0]; simp [h])]
      exact lsC_nth f (b + 1) q c j hp' h1 h2 h3
    · rw [if_neg h] at h2 h3
      rw [if_neg h, if_pos (by rw [h0]; simp [h])]
      by_cases e : q = j
      · subst e
        rw [if_pos rfl, lsC_lo f (b + 1) (q + 1) _ q (by omega), upN_at]
      · rw [if_neg (fun g => e (nI_inj (by omega) (by omega) g))]
        exact lsC_nth f (b + 1) (q + 1) _ j hp' (by omega) h2 h3
theorem nth_hit {p : Nat → Bool} {n : Int32} {k : Nat} : ∀ f b q, nthP p n f b q = some k → p k = true ∧ b ≤ k ∧ k < b + f
  | 0, _, _, h => by cases h
  | f + 1, b, q, h => by
    simp only [nthP] at h
    by_cases e : p b = true
    · rw [if_pos e] at h
      by_cases g : nI q = n
      · rw [if_pos g] at h
        cases h
        exact ⟨e, Nat.le_refl _, by omega⟩
      · rw [if_neg g] at h
        have := nth_hit f (b + 1) (q + 1) h
        exact ⟨this.1, by omega, by omega⟩
    · rw [if_neg e] at h
      have := nth_hit f (b + 1) q h
      exact ⟨this.1, by omega, by omega⟩
theorem nth_none {p : Nat → Bool} {n : Int32} : ∀ f b q, (∀ i, q ≤ i → i < q + cntF p f b → ¬ nI i = n) → nthP p n f b q = none
  | 0, _, _, _ => rfl
  | f + 1, b, q, h => by
    simp only [nthP]
    simp only [cntF] at h
    by_cases e : p b = true
    · rw [if_pos e, if_neg (h q (Nat.le_refl _) (by rw [if_pos e]; omega))]
      exact nth_none f (b + 1) (q + 1) (fun i h1 h2 => h i (by omega) (by rw [if_pos e]; omega))
    · rw [if_neg e]
      exact nth_none f (b + 1) q (fun i h1 h2 => h i h1 (by rw [if_neg e]; omega))
theorem nth_cut {p : Nat → Bool} {n : Int32} : ∀ f d b q, (∀ i, f ≤ i → i < f + d → p (b + i) = false) → nthP p n (f + d) b q = nthP p n f b q
  | 0, 0, _, _, _ => rfl
  | 0, d + 1, b, q, h => by
    rw [show 0 + (d + 1) = (0 + d) + 1 by omega]
    simp only [nthP]
    have h0 := h 0 (by omega) (by omega)
    rw [Nat.add_zero] at h0
    rw [if_neg (by rw [h0]; simp), nth_cut 0 d (b + 1) q (fun i h1 h2 => by have := h (i + 1) (by omega) (by omega); rw [show b + 1 + i = b + (i + 1) by omega]; exact this)]
    rfl
  | f + 1, d, b, q, h => by
    rw [show f + 1 + d = (f + d) + 1 by omega]
    have h' : ∀ i, f ≤ i → i < f + d → p (b + 1 + i) = false := fun i h1 h2 => by have := h (i + 1) (by omega) (by omega); rw [show b + 1 + i = b + (i + 1) by omega]; exact this
    simp only [nthP]
    rw [nth_cut f d (b + 1) (q + 1) h', nth_cut f d (b + 1) q h']
theorem nth_eq {p r : Nat → Bool} {n : Int32} : ∀ f b q, (∀ i, i < f → p (b + i) = r (b + i)) → nthP p n f b q = nthP r n f b q
  | 0, _, _, _ => rfl
  | f + 1, b, q, h => by
    have h0 := h 0 (by omega)
    rw [Nat.add_zero] at h0
    have h' : ∀ i, i < f → p (b + 1 + i) = r (b + 1 + i) := fun i hi => by have := h (i + 1) (by omega); rw [show b + 1 + i = b + (i + 1) by omega]; exact this
    simp only [nthP]
    rw [h0, nth_eq f (b + 1) (q + 1) h', nth_eq f (b + 1) q h']
section FO
variable {bn lc cc fb fl : Nat} {ld : Int64} {cs re ro od fk : Nat → Nat} {kg co : Nat → Int64} {wr fd : Int32} {rows rounds costs lists : Nat → Int32}
theorem cr_pos {r st : Nat} {c : Int64} {o : Nat → Nat} {k : Int32} {li : Nat → Int32} (h : CR r c o k li st) : decide (0 ≤ k) = decide (¬ r = 0) := by
  rcases h with ⟨h1, h2⟩ | ⟨h1, n, h2, -, h4, -⟩
  · rw [h1, h2]; decide
  · rw [h4]
    have : (0 : Int32) ≤ nI n := Int32.not_lt.mp (nI_nn (by omega))
    simp [h1, this]
theorem fr_steps (hbn : bn ≤ 6) (hre : ∀ j, j < 64 → re j < 64) (h : FR bn ld lc cc cs kg re ro co od wr fb fl fk rows rounds costs lists fd) : nI lc = nI (cntF (fun k => decide (¬ rows k = 0)) 384 0) := by
  obtain ⟨-, -, -, h4, h5, -⟩ := h
  have := rel_lab hbn h4 hre
  rw [h5]
  exact congrArg nI this.symm
theorem fr_p (hbn : bn ≤ 6) (h : FR bn ld lc cc cs kg re ro co od wr fb fl fk rows rounds costs lists fd) : (∀ st, st < 64 → decide (0 ≤ costs st) = decide (¬ ro st = 0)) ∧ (∀ st, st < 64 → (st = 0 ∨ 2 ^ bn ≤ st) → ro st = 0) := by
  obtain ⟨-, -, -, ⟨-, -, r3, -, r5⟩, -⟩ := h
  exact ⟨fun st hs => cr_pos (r3 st hs), fun st h1 h2 => (r5 st h1 h2).2⟩
theorem fr_cc (hbn : bn ≤ 6) (h : FR bn ld lc cc cs kg re ro co od wr fb fl fk rows rounds costs lists fd) : cc = cntF (fun st => decide (0 ≤ costs st)) 64 0 ∧ cc = cntF (fun st => decide (0 ≤ costs st)) 63 1 := by
  obtain ⟨g1, g2⟩ := fr_p hbn h
  obtain ⟨h1, h2⟩ := p64 hbn
  obtain ⟨-, -, -, -, -, ⟨c0, h6⟩, -⟩ := h
  have e : cc = cntF (fun st => decide (¬ ro st = 0)) (2 ^ bn - 1) 1 := by
    have := congrArg Prod.fst h6
    rw [lsC_cnt] at this
    show (cc, cs).1 = _
    rw [this]; omega
  have e2 : cc = cntF (fun st => decide (0 ≤ costs st)) 63 1 := by
    rw [e, show 63 = (2 ^ bn - 1) + (64 - 2 ^ bn) by omega, cnt_add, cnt_no (64 - 2 ^ bn) _ (fun i hi => by
      show decide (0 ≤ costs (1 + (2 ^ bn - 1) + i)) = false
      rw [g1 _ (by omega), g2 _ (by omega) (Or.inr (by omega))]; rfl)]
    exact (cnt_eq (2 ^ bn - 1) 1 1 (fun i hi => (g1 (1 + i) (by omega)).symm)).trans (Nat.add_zero _).symm
  refine ⟨?_, e2⟩
  rw [e2, show 64 = 1 + 63 by omega, cnt_add, cnt_no 1 0 (fun i hi => by
    show decide (0 ≤ costs (0 + i)) = false
    rw [show 0 + i = 0 by omega, g1 0 (by omega), g2 0 (by omega) (Or.inl rfl)]; rfl)]
  simp only [Nat.zero_add]
/-- the k-th column -/
theorem fr_nth (hbn : bn ≤ 6) (hcc : cc ≤ 63) (h : FR bn ld lc cc cs kg re ro co od wr fb fl fk rows rounds costs lists fd) {j : Nat} (hj : j < cc) : nthP (fun k => decide (0 ≤ costs k)) (nI j) 63 1 0 = some (cs j) := by
  obtain ⟨g1, g2⟩ := fr_p hbn h
  obtain ⟨h1, h2⟩ := p64 hbn
  obtain ⟨-, -, -, -, -, ⟨c0, h6⟩, -⟩ := h
  have e1 : (lsC ro (2 ^ bn - 1) 1 (0, c0)).1 = cc := (congrArg Prod.fst h6).symm
  have e2 : (lsC ro (2 ^ bn - 1) 1 (0, c0)).2 = cs := (congrArg Prod.snd h6).symm
  have e := lsC_nth (ro := ro) (p := fun k => decide (0 ≤ costs k)) (2 ^ bn - 1) 1 0 c0 j (fun i hi => g1 (1 + i) (by omega)) (by omega) (by omega) (by omega)
  rw [e2] at e
  rw [show 63 = (2 ^ bn - 1) + (64 - 2 ^ bn) by omega, nth_cut (2 ^ bn - 1) (64 - 2 ^ bn) 1 0 (fun i a1 a2 => by
    show decide (0 ≤ costs (1 + i)) = false
    rw [g1 _ (by omega), g2 _ (by omega) (Or.inr (by omega))]; rfl)]
  exact e
theorem fr_nth0 (hbn : bn ≤ 6) (hcc : cc ≤ 63) (h : FR bn ld lc cc cs kg re ro co od wr fb fl fk rows rounds costs lists fd) {n : Int32} (hj : ¬ (0 ≤ n ∧ n < nI cc)) : nthP (fun k => decide (0 ≤ costs k)) n 63 1 0 = none := by
  obtain ⟨-, e2⟩ := fr_cc hbn h
  refine nth_none 63 1 0 (fun i h1 h2 q => hj ?_)
  rw [← e2] at h2
  rw [← q]
  exact ⟨Int32.not_lt.mp (nI_nn (by omega)), (nI_ltI (by omega) (by omega)).mpr (by omega)⟩
theorem fr_column (hbn : bn ≤ 6) (hcc : cc ≤ 63) (hcs : ∀ j, j < 63 → cs j < 64) (h : FR bn ld lc cc cs kg re ro co od wr fb fl fk rows rounds costs lists fd) (n i : Int32) :
    (if 0 ≤ n ∧ n < nI cc then (if 0 ≤ i ∧ i < nI (pcn (cs n.toNatClampNeg)) then bsI od (cs n.toNatClampNeg * 6 + i.toNatClampNeg) else -1) else -1) = (if 0 < ((nthP (fun k => decide (0 ≤ costs k)) n 63 1 0).getD 0) ∧ 0 ≤ i ∧ i < 6 then lists (6 * ((nthP (fun k => decide (0 ≤ costs k)) n 63 1 0).getD 0) + i.toNatClampNeg) else -1) := by
  by_cases q : 0 ≤ n ∧ n < nI cc
  · obtain ⟨j, hj, rfl⟩ := ix_of q (by omega)
    rw [if_pos q, fr_nth hbn hcc h hj, nI_clamp (by omega)]
    obtain ⟨g1, g2⟩ := fr_p hbn h
    have hc := hcs j (by omega)
    have hne : ¬ ro (cs j) = 0 := by
      have hh := (nth_hit 63 1 0 (fr_nth hbn hcc h hj)).1
      have hh : decide (0 ≤ costs (cs j)) = true := hh
      rw [g1 (cs j) hc] at hh
      simpa using hh
    have h0 : 0 < cs j := by
      rcases Nat.eq_zero_or_pos (cs j) with e | e
      · rw [e] at hne; exact absurd (g2 0 (by omega) (Or.inl rfl)) hne
      · exact e
    obtain ⟨-, -, -, ⟨-, -, r3, -⟩, -⟩ := h
    rcases r3 (cs j) hc with ⟨a1, -⟩ | ⟨-, c, -, -, -, a5⟩
    · exact absurd a1 hne
    · have hp := pcn_le (cs j)
      show (if 0 ≤ i ∧ i < nI (pcn (cs j)) then bsI od (cs j * 6 + i.toNatClampNeg) else -1) = if 0 < cs j ∧ 0 ≤ i ∧ i < 6 then lists (6 * cs j + i.toNatClampNeg) else -1
      by_cases w : 0 ≤ i ∧ i < 6
      · obtain ⟨k, hk, rfl⟩ := ix_of (n := 6) w (by omega)
        rw [if_pos (show 0 < cs j ∧ 0 ≤ nI k ∧ nI k < 6 from ⟨h0, w⟩), nI_clamp (by omega)]
        have this : lists (6 * cs j + k) = if k < pcn (cs j) then nI (od (cs j * 6 + k)) else -1 := a5 k hk
        rw [this]
        by_cases v : k < pcn (cs j)
        · rw [if_pos v, if_pos (show 0 ≤ nI k ∧ nI k < nI (pcn (cs j)) from ⟨w.1, (nI_ltI (by omega) (by omega)).mpr v⟩)]; rfl
        · rw [if_neg v, if_neg (show ¬ (0 ≤ nI k ∧ nI k < nI (pcn (cs j))) from fun z => v ((nI_ltI (by omega) (by omega)).mp z.2))]
      · rw [if_neg (show ¬ (0 < cs j ∧ 0 ≤ i ∧ i < 6) from fun z => w z.2), if_neg (show ¬ (0 ≤ i ∧ i < nI (pcn (cs j))) from fun z => w ⟨z.1, Int32.lt_of_lt_of_le z.2 ((nI_leI (a := pcn (cs j)) (b := 6) (by omega) (by omega)).mpr (by omega))⟩)]
  · rw [if_neg q, fr_nth0 hbn hcc h q, if_neg (fun z => absurd z.1 (by simp))]
/-- cuts -/
theorem kgM_N {st : Nat} (hk : ∀ j, j < 6 → fk j ≤ 1000) : ∀ b, b ≤ 6 → kgM (bsI fk) st b = nI (kgN fk st b) ∧ kgN fk st b ≤ 1000 * b
  | 0, _ => ⟨rfl, Nat.le_refl _⟩
  | b + 1, hb => by
    obtain ⟨h1, h2⟩ := kgM_N (st := st) hk b (by omega)
    have := hk b (by omega)
    simp only [kgM, kgN]
    rw [h1]
    split
    · exact ⟨nI_add _ _, by omega⟩
    · exact ⟨nI_add _ 0, by omega⟩
theorem fr_cutp (hbn : bn ≤ 6) (hfl : fl ≤ 6000) (hk : ∀ j, j < 6 → fk j ≤ 1000) (h : FR bn ld lc cc cs kg re ro co od wr fb fl fk rows rounds costs lists fd) : (∀ st, st < 2 ^ bn → 1 ≤ st → cutP ld kg st = cuM fd (nI fl) (bsI fk) fb st) ∧ ∀ st, 2 ^ bn ≤ st → cuM fd (nI fl) (bsI fk) fb st = false := by
  obtain ⟨rfl, rfl, h3, -, -, -, -, h8⟩ := h
  constructor
  · intro st hs h1
    have hf : fd = 1 := by
      rcases h8 with h8 | ⟨-, h8⟩
      · exact h8
      · rw [h8] at hs; omega
    obtain ⟨e1, e2⟩ := kgM_N (st := st) hk bn hbn
    unfold cutP cuM
    rw [h3 st hs, e1, hf]
    have a1 : (0 < lN fl) ↔ (0 < nI fl) := by
      rw [show (0 : Int64) = lN 0 from rfl, show (0 : Int32) = nI 0 from rfl, lN_lt (by omega) (by omega), nI_ltI (by omega) (by omega)]
    have a2 : (lN fl < lN (kgN fk st bn)) ↔ (nI fl < nI (kgN fk st bn)) := by
      rw [lN_lt (by omega) (by omega), nI_ltI (by omega) (by omega)]
    have b1 : decide (0 < lN fl) = decide (0 < nI fl) := decide_eq_decide.mpr a1
    have b2 : decide (lN fl < lN (kgN fk st bn)) = decide (nI fl < nI (kgN fk st bn)) := decide_eq_decide.mpr a2
    rw [b1, b2]
    simp [hs]
  · intro st hs
    unfold cuM
    rw [decide_eq_false (show ¬ st < 2 ^ bn by omega)]
    simp
theorem fr_cuts (hbn : bn ≤ 6) (hfl : fl ≤ 6000) (hk : ∀ j, j < 6 → fk j ≤ 1000) (h : FR bn ld lc cc cs kg re ro co od wr fb fl fk rows rounds costs lists fd) : nI (cntF (cutP ld kg) (2 ^ bn - 1) 1) = nI (cntF (cuM fd (nI fl) (bsI fk) fb) 63 1) := by
  obtain ⟨g1, g2⟩ := fr_cutp hbn hfl hk h
  obtain ⟨h1, h2⟩ := p64 hbn
  refine congrArg nI ?_
  rw [show 63 = (2 ^ bn - 1) + (64 - 2 ^ bn) by omega, cnt_add, cnt_no (64 - 2 ^ bn) _ (fun i hi => g2 _ (by omega)), Nat.add_zero]
  exact cnt_eq (2 ^ bn - 1) 1 1 (fun i hi => g1 (1 + i) (by omega) (by omega))
theorem nthF_z (n : Int32) : ∀ f b q : Nat, nthF 0 n f b q = -1
  | 0, _, _ => rfl
  | f + 1, b, q => by simp only [nthF, Nat.zero_testBit]; exact nthF_z n f (b + 1) q
theorem fr_cut (hbn : bn ≤ 6) (hfl : fl ≤ 6000) (hk : ∀ j, j < 6 → fk j ≤ 1000) (h : FR bn ld lc cc cs kg re ro co od wr fb fl fk rows rounds costs lists fd) (n i : Int32) : nthF ((nthP (cutP ld kg) n (2 ^ bn - 1) 1 0).getD 0) i 6 0 0 = match nthP (cuM fd (nI fl) (bsI fk) fb) n 63 1 0 with | some s => nthF s i 6 0 0 | none => -1 := by
  obtain ⟨g1, g2⟩ := fr_cutp hbn hfl hk h
  obtain ⟨h1, h2⟩ := p64 hbn
  have e1 : nthP (cuM fd (nI fl) (bsI fk) fb) n 63 1 0 = nthP (cuM fd (nI fl) (bsI fk) fb) n (2 ^ bn - 1) 1 0 := by
    rw [show 63 = (2 ^ bn - 1) + (64 - 2 ^ bn) by omega]
    exact nth_cut (2 ^ bn - 1) (64 - 2 ^ bn) 1 0 (fun j a1 a2 => g2 (1 + j) (by omega))
  have e2 : nthP (cutP ld kg) n (2 ^ bn - 1) 1 0 = nthP (cuM fd (nI fl) (bsI fk) fb) n (2 ^ bn - 1) 1 0 := nth_eq (2 ^ bn - 1) 1 0 (fun j hj => g1 (1 + j) (by omega) (by omega))
  rw [e1, e2]
  generalize nthP (cuM fd (nI fl) (bsI fk) fb) n (2 ^ bn - 1) 1 0 = o
  cases o with
  | none => exact nthF_z i 6 0 0
  | some s => rfl
end FO
