/-! dropped, labelsClosed: both alike -/
theorem lsC_mem {ro : Nat → Nat} : ∀ f b q c st, b ≤ st → st < b + f → ¬ ro st = 0 → ∃ i, q ≤ i ∧ i < (lsC ro f b (q, c)).1 ∧ (lsC ro f b (q, c)).2 i = st
  | 0, _, _, _, _, h1, h2, _ => absurd h2 (by omega)
  | f + 1, b, q, c, st, h1, h2, h3 => by
    simp only [lsC]
    by_cases e : st = b
    · subst e
      rw [if_neg h3]
      refine ⟨q, Nat.le_refl _, ?_, ?_⟩
      · rw [lsC_cnt]; omega
      · rw [lsC_lo f (st + 1) (q + 1) _ q (by omega), upN_at]
    · by_cases g : ro b = 0
      · rw [if_pos g]
        exact lsC_mem f (b + 1) q c st (by omega) (by omega) h3
      · rw [if_neg g]
        obtain ⟨i, a1, a2, a3⟩ := lsC_mem f (b + 1) (q + 1) (upN c q b) st (by omega) (by omega) h3
        exact ⟨i, by omega, a2, a3⟩
theorem sub_same : ∀ j, j < 64 → ∀ s, s < 64 → ((nI j &&& (nI s ^^^ -1) = 0) ↔ (nI j &&& nI s = nI j)) := by decide +kernel
theorem nth_split {p : Nat → Bool} {n : Int32} : ∀ a b s q, nthP p n (a + b) s q = match nthP p n a s q with | some k => some k | none => nthP p n b (s + a) (q + cntF p a s)
  | 0, b, s, q => by
    rw [Nat.zero_add]
    simp only [nthP, cntF, Nat.add_zero]
  | a + 1, b, s, q => by
    rw [show a + 1 + b = (a + b) + 1 by omega]
    simp only [nthP, cntF]
    by_cases e : p s = true
    · rw [if_pos e, if_pos e, if_pos e]
      by_cases g : nI q = n
      · rw [if_pos g, if_pos g]
      · rw [if_neg g, if_neg g, nth_split a b (s + 1) (q + 1), show s + 1 + a = s + (a + 1) by omega, show q + 1 + cntF p a (s + 1) = q + (1 + cntF p a (s + 1)) by omega]
    · rw [if_neg e, if_neg e, if_neg e, nth_split a b (s + 1) q, show s + 1 + a = s + (a + 1) by omega, show q + cntF p a (s + 1) = q + (0 + cntF p a (s + 1)) by omega]
theorem nth_shift {p r : Nat → Bool} {q n : Nat} : ∀ f s t u, q + n < 2 ^ 31 → q + u + f < 2 ^ 31 → (∀ i, i < f → p (s + i) = r (t + i)) → nthP p (nI (q + n)) f s (q + u) = (nthP r (nI n) f t u).map (fun k => s + (k - t))
  | 0, _, _, _, _, _, _ => rfl
  | f + 1, s, t, u, h1, h2, h => by
    have h0 := h 0 (by omega)
    rw [Nat.add_zero, Nat.add_zero] at h0
    have h' : ∀ i, i < f → p (s + 1 + i) = r (t + 1 + i) := fun i hi => by have := h (i + 1) (by omega); rw [show s + 1 + i = s + (i + 1) by omega, show t + 1 + i = t + (i + 1) by omega]; exact this
    have up : ∀ v, q + v + f < 2 ^ 31 → (nthP r (nI n) f (t + 1) v).map (fun k => s + 1 + (k - (t + 1))) = (nthP r (nI n) f (t + 1) v).map (fun k => s + (k - t)) := fun v _ => by
      cases e : nthP r (nI n) f (t + 1) v with
      | none => rfl
      | some k =>
        have := (nth_hit f (t + 1) v e).2.1
        simp only [Option.map_some]
        congr 1
        omega
    simp only [nthP]
    rw [h0]
    by_cases e : r t = true
    · rw [if_pos e, if_pos e]
      by_cases g : u = n
      · subst g
        rw [if_pos rfl, if_pos rfl]
        simp
      · rw [if_neg (fun z => g (by have := nI_inj (by omega) (by omega) z; omega)), if_neg (fun z => g (nI_inj (by omega) (by omega) z))]
        have := nth_shift f (s + 1) (t + 1) (u + 1) h1 (by omega) h'
        rw [show q + u + 1 = q + (u + 1) by omega, this, up (u + 1) (by omega)]
    · rw [if_neg e, if_neg e, nth_shift f (s + 1) (t + 1) u h1 (by omega) h', up u (by omega)]
theorem nth_six : ∀ k, k < 64 → ∀ q, q < 6 → nthP (fun b => k.testBit b) (nI q) 6 0 0 = if q < pcn k then some (nbN k q) else none := by decide +kernel
theorem nth_six2 {k q : Nat} (hk : k < 64) (hq : q < 2 ^ 30) : nthP (fun b => k.testBit b) (nI q) 6 0 0 = if q < pcn k then some (nbN k q) else none := by
  by_cases h : q < 6
  · exact nth_six k hk q h
  · have := pcn_le k
    rw [if_neg (by omega)]
    refine nth_none 6 0 0 (fun i h1 h2 z => ?_)
    rw [← pcn_cnt k hk] at h2
    have := nI_inj (by omega) (by omega) z
    omega
theorem nbN_lt : ∀ k, k < 64 → ∀ q, q < 6 → q < pcn k → nbN k q < 6 := by decide +kernel
section DC
variable {bn lc cc fb fl : Nat} {ld : Int64} {cs re ro od fk : Nat → Nat} {kg co : Nat → Int64} {wr fd : Int32} {rows rounds costs lists : Nat → Int32}
/-- the answer of the reference, set by set -/
def drA (rounds : Nat → Int32) (o : Option Nat) : Int32 := match o with | some k => (if rounds k = 0 then 1 else 0) | none => 0
theorem ln_same (hre : ∀ j, j < 64 → re j < 64) (h1 : ∀ st b, st < 64 → b < 6 → rows (6 * st + b) = if (re st).testBit b then 1 else 0) (h2 : ∀ st b, st < 64 → b < 6 → rounds (6 * st + b) = if (ro st).testBit b then 1 else 0) : ∀ f s q0 q, s + f ≤ 64 → q < 2 ^ 20 → q0 + 6 * f ≤ 384 → drA rounds (nthP (fun k => decide (¬ rows k = 0)) (nI (q0 + q)) (6 * f) (6 * s) q0) = lnF re ro f s q
  | 0, _, _, _, _, _, _ => rfl
  | f + 1, s, q0, q, hs, hq, h0 => by
    have hb : ∀ i, i < 6 → (fun k => decide (¬ rows k = 0)) (6 * s + i) = (fun b => (re s).testBit b) (0 + i) := fun i hi => by
      show decide (¬ rows (6 * s + i) = 0) = (re s).testBit (0 + i)
      rw [h1 s i (by omega) hi, Nat.zero_add]
      cases z : (re s).testBit i <;> simp
    have hpl := pcn_le (re s)
    have hr := hre s (by omega)
    have e6 := nth_shift (p := fun k => decide (¬ rows k = 0)) (r := fun b => (re s).testBit b) (q := q0) (n := q) 6 (6 * s) 0 0 (by omega) (by omega) hb
    rw [Nat.add_zero] at e6
    have ec : cntF (fun k => decide (¬ rows k = 0)) 6 (6 * s) = pcn (re s) := by
      rw [pcn_cnt _ hr]
      exact cnt_eq (p := fun k => decide (¬ rows k = 0)) (q := fun b => (re s).testBit b) 6 (6 * s) 0 hb
    rw [show 6 * (f + 1) = 6 + 6 * f by omega, nth_split, e6, nth_six2 hr (by omega), ec, show 6 * s + 6 = 6 * (s + 1) by omega]
    simp only [lnF]
    by_cases c : q < pcn (re s)
    · rw [if_pos c, if_pos c]
      have hn := nbN_lt (re s) hr q (by omega) c
      show (if rounds (6 * s + (nbN (re s) q - 0)) = 0 then (1 : Int32) else 0) = _
      rw [Nat.sub_zero, h2 s _ (by omega) hn]
      cases z : (ro s).testBit (nbN (re s) q) <;> simp
    · rw [if_neg c, if_neg c]
      show drA rounds (nthP (fun k => decide (¬ rows k = 0)) (nI (q0 + q)) (6 * f) (6 * (s + 1)) (q0 + pcn (re s))) = _
      rw [show q0 + q = (q0 + pcn (re s)) + (q - pcn (re s)) by omega]
      exact ln_same hre h1 h2 f (s + 1) (q0 + pcn (re s)) (q - pcn (re s)) (by omega) (by omega) (by omega)
theorem ln_no : ∀ f s q, (∀ i, i < f → re (s + i) = 0) → lnF re ro f s q = 0
  | 0, _, _, _ => rfl
  | f + 1, s, q, h => by
    have h0 := h 0 (by omega)
    rw [Nat.add_zero] at h0
    simp only [lnF]
    rw [h0, show pcn 0 = 0 by decide, if_neg (Nat.not_lt_zero q)]
    exact ln_no f (s + 1) _ (fun i hi => by have := h (i + 1) (by omega); rw [show s + 1 + i = s + (i + 1) by omega]; exact this)
theorem ln_add : ∀ a b s q, q < lbl re a s → lnF re ro (a + b) s q = lnF re ro a s q
  | 0, _, _, _, h => absurd h (by simp [lbl])
  | a + 1, b, s, q, h => by
    simp only [lbl] at h
    rw [show a + 1 + b = (a + b) + 1 by omega]
    simp only [lnF]
    by_cases c : q < pcn (re s)
    · rw [if_pos c, if_pos c]
    · rw [if_neg c, if_neg c]
      exact ln_add a b (s + 1) _ (by omega)
theorem fr_dropped (hbn : bn ≤ 6) (hre : ∀ j, j < 64 → re j < 64) (hlc : lc < 2 ^ 20) (h : FR bn ld lc cc cs kg re ro co od wr fb fl fk rows rounds costs lists fd) (n : Int32) :
    (if 0 ≤ n ∧ n < nI lc then lnF re ro (2 ^ bn - 1) 1 n.toNatClampNeg else 0) = match nthP (fun k => decide (¬ rows k = 0)) n 384 0 0 with | some k => (if rounds k = 0 then 1 else 0) | none => 0 := by
  have hl := fr_steps hbn hre h
  obtain ⟨-, -, -, r, h5, -⟩ := h
  have hcn := rel_lab hbn r hre
  obtain ⟨r1, r2, -, -, r5⟩ := r
  obtain ⟨p1, p2⟩ := p64 hbn
  show _ = drA rounds (nthP (fun k => decide (¬ rows k = 0)) n 384 0 0)
  by_cases q : 0 ≤ n ∧ n < nI lc
  · obtain ⟨j, hj, rfl⟩ := ix_of q (by omega)
    rw [if_pos q, nI_clamp (by omega)]
    have e := ln_same (ro := ro) (rounds := rounds) hre r1 r2 64 0 0 j (by omega) (by omega) (by omega)
    rw [Nat.zero_add] at e
    have e' : drA rounds (nthP (fun k => decide (¬ rows k = 0)) (nI j) 384 0 0) = lnF re ro 64 0 j := e
    rw [e', show 64 = ((2 ^ bn - 1) + (64 - 2 ^ bn)) + 1 by omega]
    conv => rhs; rw [lnF]
    have hr0 : re 0 = 0 := (r5 0 (by omega) (Or.inl rfl)).1
    rw [hr0, show pcn 0 = 0 by decide, if_neg (Nat.not_lt_zero j), Nat.sub_zero]
    rw [h5] at hj
    exact (ln_add (2 ^ bn - 1) (64 - 2 ^ bn) 1 j hj).symm
  · rw [if_neg q]
    have e : nthP (fun k => decide (¬ rows k = 0)) n 384 0 0 = none := by
      refine nth_none 384 0 0 (fun i h1 h2 z => q ?_)
      have hcn' : cntF (fun j => decide (¬ rows j = 0)) 384 0 = lc := hcn.trans h5.symm
      rw [hcn'] at h2
      rw [← z]
      exact ⟨Int32.not_lt.mp (nI_nn (by omega)), (nI_ltI (by omega) (by omega)).mpr (by omega)⟩
    rw [e]
    rfl
theorem fr_closed {r1 r2 : Int32} (hbn : bn ≤ 6) (hcc : cc ≤ 63) (hcs : ∀ j, j < 63 → cs j < 64) (h : FR bn ld lc cc cs kg re ro co od wr fb fl fk rows rounds costs lists fd) (h1 : (r1 = 1 ∧ ¬ wr = 0 ∧ suC cs ro cc) ∨ (r1 = 0 ∧ ¬ (¬ wr = 0 ∧ suC cs ro cc))) (h2 : inv9 r2 (mlQ costs fd 64)) : r1 = r2 := by
  have hcol := fun j => fr_col (j := j) hbn hcc hcs h
  obtain ⟨g1, g2⟩ := fr_p hbn h
  obtain ⟨p1, p2⟩ := p64 hbn
  obtain ⟨-, -, -, -, -, ⟨c0, h6⟩, rfl, -⟩ := h
  have e1 : (lsC ro (2 ^ bn - 1) 1 (0, c0)).1 = cc := (congrArg Prod.fst h6).symm
  have e2 : (lsC ro (2 ^ bn - 1) 1 (0, c0)).2 = cs := (congrArg Prod.snd h6).symm
  have gp : ∀ st, st < 64 → (0 ≤ costs st ↔ ¬ ro st = 0) := fun st hs => decide_eq_decide.mp (g1 st hs)
  have key : (¬ wr = 0 ∧ suC cs ro cc) ↔ mlQ costs wr 64 := by
    constructor
    · rintro ⟨a, s⟩
      refine ⟨a, fun st k1 k2 k3 pt k4 k5 k6 => ?_⟩
      have hr := (gp st k2).mp k3
      have hlt : st < 2 ^ bn := by
        apply Classical.byContradiction
        intro z
        exact hr (g2 st k2 (Or.inr (by omega)))
      obtain ⟨i, -, b2, b3⟩ := lsC_mem (ro := ro) (2 ^ bn - 1) 1 0 c0 st k1 (by omega) hr
      rw [e1] at b2
      rw [e2] at b3
      refine (gp pt (by omega)).mpr (s i b2 pt k4 (by omega) ?_)
      rw [b3]
      exact (sub_same pt (by omega) st k2).mpr k6
    · rintro ⟨a, s⟩
      refine ⟨a, fun i k1 j k2 k3 k4 => ?_⟩
      have hc := hcs i (by omega)
      obtain ⟨b1, b2, b3⟩ := hcol i k1
      exact (gp j (by omega)).mp (s (cs i) b2 hc ((gp _ hc).mpr b1) j k2 k3 ((sub_same j (by omega) (cs i) hc).mp k4))
  rcases h1 with ⟨a1, a2⟩ | ⟨a1, a2⟩
  · rcases h2 with ⟨b1, b2⟩ | ⟨b1, b2⟩
    · rw [a1, b1]
    · exact absurd (key.mp a2) b2
  · rcases h2 with ⟨b1, b2⟩ | ⟨b1, b2⟩
    · exact absurd (key.mpr b2) a2
    · rw [a1, b1]
end DC
