/-! check: both alike -/
section CK
variable {tl : Int64} {tk : Nat → Int64} {tbs : Nat → Int32} {S : Nat → Nat → Int32} {Cc : Nat → Nat → Int64} {lo : Nat} {kn : Nat → Nat} {W B C : Nat → Int32} {tm : Int32} {od : Nat → Nat} {sx ln : Nat}
theorem cr_run (hT : TwR tl tk tbs S Cc lo kn W B C) (h6 : ∀ i, i < 6 → od (sx + i) < 6) (hl : ln ≤ 6) : ∀ i, i ≤ ln → crF S Cc tk tbs od sx ln (ln + 1) 0 0 0 0 0 = match secO W B (fun i => od (sx + i)) i 0 0 with | none => none | some s => crF S Cc tk tbs od sx ln (ln + 1 - i) i (frM (fun i => od (sx + i)) i) s (lN (kilN kn (fun i => od (sx + i)) i)) (lN (csN C (fun i => od (sx + i)) i))
  | 0, _ => rfl
  | i + 1, hi => by
    obtain ⟨t1, t2, t3, t4, t5, t6, t7, t8⟩ := id hT
    rw [cr_run hT h6 hl i (by omega), secO_snoc i 0 0, Nat.zero_add]
    cases hs : secO W B (fun i => od (sx + i)) i 0 0 with
    | none => rfl
    | some s =>
      have hf := frM_lt (rw := fun i => od (sx + i)) h6 (i := i) (by omega)
      have ho := h6 i (by omega)
      obtain ⟨eS, eC⟩ := t6 (frM (fun i => od (sx + i)) i) (1 + od (sx + i)) hf (by omega)
      have hix : 7 * frM (fun i => od (sx + i)) i + od (sx + i) + 1 = 7 * frM (fun i => od (sx + i)) i + (1 + od (sx + i)) := by omega
      have hwt : 7 * frM (fun i => od (sx + i)) i + (1 + od (sx + i)) < 49 := by omega
      have enx : nxF od sx ln i = 1 + od (sx + i) := by unfold nxF; rw [if_pos (by omega)]
      show crF S Cc tk tbs od sx ln (ln + 1 - i) i (frM (fun i => od (sx + i)) i) s _ _ = match (if W (7 * frM (fun i => od (sx + i)) i + od (sx + i) + 1) < 0 then none else some (s + (W (7 * frM (fun i => od (sx + i)) i + od (sx + i) + 1) + B (od (sx + i))))) with | none => none | some s => crF S Cc tk tbs od sx ln (ln + 1 - (i + 1)) (i + 1) (frM (fun i => od (sx + i)) (i + 1)) s (lN (kilN kn (fun i => od (sx + i)) (i + 1))) (lN (csN C (fun i => od (sx + i)) (i + 1)))
      rw [hix, show ln + 1 - i = (ln + 1 - (i + 1)) + 1 by omega]
      simp only [crF]
      rw [enx, eS]
      rcases t7 _ hwt with g | ⟨w, g1, g2⟩
      · rw [g, if_pos rfl, if_pos (by decide)]
      · have hn : ¬ nI w = -1 := fun z => by
          have := nI_nn (a := w) (by omega)
          rw [z] at this
          exact this (by decide)
        rw [g2, if_neg hn, if_neg (nI_nn (by omega)), if_neg (show ¬ 1 + od (sx + i) = 0 by omega)]
        obtain ⟨eB, -⟩ := t5 (od (sx + i)) ho
        have e1 : 1 + od (sx + i) - 1 = od (sx + i) := by omega
        have e2 : frM (fun i => od (sx + i)) (i + 1) = 1 + od (sx + i) := by unfold frM; rw [if_neg (by omega)]; show od (sx + (i + 1 - 1)) + 1 = _; rw [show i + 1 - 1 = i by omega]; omega
        have e3 : lN (kilN kn (fun i => od (sx + i)) i) + tk (od (sx + i)) = lN (kilN kn (fun i => od (sx + i)) (i + 1)) := by rw [t3 _ ho, lN_add]; rfl
        have e4 : lN (csN C (fun i => od (sx + i)) i) + Cc (frM (fun i => od (sx + i)) i) (1 + od (sx + i)) = lN (csN C (fun i => od (sx + i)) (i + 1)) := by
          rw [eC, (cN_ok t8 hwt).1, nIl (by have := (cN_ok t8 hwt).2; omega), lN_add]
          simp only [csN]
          rw [hix]
        rw [e1, e2, e3, e4, eB, Int32.add_assoc]
theorem secO_bd {rw : Nat → Nat} (hT : TwR tl tk tbs S Cc lo kn W B C) (h6 : ∀ i, i < 6 → rw i < 6) : ∀ n, n ≤ 6 → ∀ s, secO W B rw n 0 0 = some s → ∃ a, a ≤ 2000 * n ∧ s = nI a
  | 0, _, s, h => ⟨0, by omega, (Option.some.inj h).symm⟩
  | n + 1, hn, s, h => by
    obtain ⟨-, -, -, -, t5, -, t7, -⟩ := id hT
    rw [secO_snoc n 0 0, Nat.zero_add] at h
    cases hs : secO W B rw n 0 0 with
    | none => rw [hs] at h; cases h
    | some u =>
      rw [hs] at h
      have h : (if W (7 * frM rw n + rw n + 1) < 0 then none else some (u + (W (7 * frM rw n + rw n + 1) + B (rw n)))) = some s := h
      obtain ⟨a, ha, rfl⟩ := secO_bd hT h6 n (by omega) u hs
      rcases t7 _ (way_lt h6 (i := n) (by omega)) with g | ⟨w, g1, g2⟩
      · rw [g, if_pos (by decide)] at h; cases h
      · obtain ⟨-, v, v1, v2⟩ := t5 (rw n) (h6 n (by omega))
        rw [g2, if_neg (nI_nn (by omega)), v2, nI_add, nI_add] at h
        exact ⟨a + (w + v), by omega, (Option.some.inj h).symm⟩
theorem ck_ok (hT : TwR tl tk tbs S Cc lo kn W B C) (h6 : ∀ i, i < 6 → od (sx + i) < 6) (h1 : 1 ≤ ln) (hl : ln ≤ 6) {c : Nat} (hc : c ≤ 14000) : crE tl tm (crF S Cc tk tbs od sx ln (ln + 1) 0 0 0 0 0) = lN c ↔ rndB (bsI kn) W B (nI lo) tm (fun i => od (sx + i)) ln ∧ cosF C (fun i => od (sx + i)) ln = nI c := by
  obtain ⟨t1, t2, t3, t4, t5, t6, t7, t8⟩ := id hT
  have hneg : ¬ (-1 : Int64) = lN c := fun z => by
    have := congrArg Int64.toInt z
    rw [lN_toInt (by omega)] at this
    have e : (-1 : Int64).toInt = -1 := by decide
    omega
  rw [cr_run hT h6 hl ln (Nat.le_refl _)]
  have hfr : frM (fun i => od (sx + i)) ln = od (sx + (ln - 1)) + 1 := by unfold frM; rw [if_neg (by omega)]
  have ho := h6 (ln - 1) (by omega)
  cases hs : secO W B (fun i => od (sx + i)) ln 0 0 with
  | none =>
    constructor
    · intro z; exact absurd z hneg
    · rintro ⟨⟨⟨-, q, -⟩, -⟩, -⟩
      rw [secF_O, hs] at q
      exact absurd q (by decide)
  | some s =>
    obtain ⟨a, ha, rfl⟩ := secO_bd hT h6 ln hl s hs
    have hsec : secF W B (fun i => od (sx + i)) ln 0 0 = nI a := by rw [secF_O, hs]; rfl
    obtain ⟨eS, eC⟩ := t6 (frM (fun i => od (sx + i)) ln) 0 (by omega) (by omega)
    have hix : 7 * (od (sx + (ln - 1)) + 1) = 7 * frM (fun i => od (sx + i)) ln + 0 := by rw [hfr]; omega
    have hwt : 7 * frM (fun i => od (sx + i)) ln + 0 < 49 := by omega
    have hcw := cN_ok t8 hwt
    have hcl := csN_le t8 h6 ln hl
    have hkl := kilN_le t4 h6 ln hl
    have ecos : cosF C (fun i => od (sx + i)) ln = nI (cN C (7 * frM (fun i => od (sx + i)) ln + 0) + csN C (fun i => od (sx + i)) ln) := by
      unfold cosF
      rw [cosS_N t8 h6 h1 hl ln (Nat.le_refl _)]
      show nI (cN C (7 * (od (sx + (ln - 1)) + 1)) + _) = _
      rw [hix]
    have enx : nxF od sx ln ln = 0 := by unfold nxF; rw [if_neg (by omega)]
    have kN : kilF (bsI kn) (fun i => od (sx + i)) ln = nI (kilN kn (fun i => od (sx + i)) ln) := kilF_N ln
    have hrb : rndB (bsI kn) W B (nI lo) tm (fun i => od (sx + i)) ln ↔ kilN kn (fun i => od (sx + i)) ln ≤ lo ∧ nI a ≤ tm ∧ 0 ≤ W (7 * frM (fun i => od (sx + i)) ln + 0) ∧ nI a + W (7 * frM (fun i => od (sx + i)) ln + 0) ≤ tm := by
      show (kilF (bsI kn) (fun i => od (sx + i)) ln ≤ nI lo ∧ 0 ≤ secF W B (fun i => od (sx + i)) ln 0 0 ∧ secF W B (fun i => od (sx + i)) ln 0 0 ≤ tm) ∧ 0 ≤ W (7 * (od (sx + (ln - 1)) + 1)) ∧ secF W B (fun i => od (sx + i)) ln 0 0 + W (7 * (od (sx + (ln - 1)) + 1)) ≤ tm ↔ _
      rw [hsec, hix, kN, nI_leI (by omega) (by omega)]
      constructor
      · rintro ⟨⟨q1, -, q3⟩, q4, q5⟩; exact ⟨q1, q3, q4, q5⟩
      · rintro ⟨q1, q3, q4, q5⟩; exact ⟨⟨q1, Int32.not_lt.mp (nI_nn (by omega)), q3⟩, q4, q5⟩
    show crE tl tm (crF S Cc tk tbs od sx ln (ln + 1 - ln) ln (frM (fun i => od (sx + i)) ln) (nI a) _ _) = lN c ↔ _
    rw [show ln + 1 - ln = 0 + 1 by omega]
    simp only [crF]
    rw [enx, eS, hrb, ecos]
    rcases t7 _ hwt with g | ⟨w, g1, g2⟩
    · rw [g, if_pos rfl]
      constructor
      · intro z; exact absurd z hneg
      · rintro ⟨⟨-, -, q, -⟩, -⟩; exact absurd q (by decide)
    · have hn : ¬ nI w = -1 := fun z => by
        have := nI_nn (a := w) (by omega)
        rw [z] at this
        exact this (by decide)
      rw [g2, if_neg hn, if_pos rfl]
      have e4 : lN (csN C (fun i => od (sx + i)) ln) + Cc (frM (fun i => od (sx + i)) ln) 0 = lN (cN C (7 * frM (fun i => od (sx + i)) ln + 0) + csN C (fun i => od (sx + i)) ln) := by
        rw [eC, hcw.1, nIl (by have := hcw.2; omega), lN_add, Nat.add_comm]
      show (if tl < lN (kilN kn (fun i => od (sx + i)) ln) ∨ tm < nI a + nI w then (-1 : Int64) else lN (csN C (fun i => od (sx + i)) ln) + Cc (frM (fun i => od (sx + i)) ln) 0) = lN c ↔ _
      rw [e4, t1]
      have hc2 := hcw.2
      by_cases q : lN lo < lN (kilN kn (fun i => od (sx + i)) ln) ∨ tm < nI a + nI w
      · rw [if_pos q]
        constructor
        · intro z; exact absurd z hneg
        · rintro ⟨⟨q1, -, -, q4⟩, -⟩
          rcases q with q | q
          · have := (lN_lt (by omega) (by omega)).mp q; omega
          · exact absurd q4 (Int32.not_le.mpr q)
      · rw [if_neg q, lN_eq (by omega) (by omega)]
        have k1 : kilN kn (fun i => od (sx + i)) ln ≤ lo := by
          apply Classical.byContradiction
          intro z
          exact q (Or.inl ((lN_lt (by omega) (by omega)).mpr (by omega)))
        have k2 : nI a + nI w ≤ tm := Int32.not_lt.mp (fun z => q (Or.inr z))
        have k3 : nI a ≤ tm := Int32.le_trans (by rw [nI_add]; exact (nI_leI (by omega) (by omega)).mpr (by omega)) k2
        constructor
        · intro z
          exact ⟨⟨k1, k3, Int32.not_lt.mp (nI_nn (by omega)), k2⟩, by rw [z]⟩
        · rintro ⟨-, z⟩
          exact nI_inj (by omega) (by omega) z
end CK
theorem mc_same {ro : Nat → Nat} {p ok : Nat → Bool} {v w : Nat → Int64} : ∀ f b q c, (∀ i, i < f → p (b + i) = decide (¬ ro (b + i) = 0)) → (∀ i, q ≤ i → i < (lsC ro f b (q, c)).1 → (v i = w i ↔ ok ((lsC ro f b (q, c)).2 i) = true)) → ckF v w ((lsC ro f b (q, c)).1 - q) q = mcF p ok f b q
  | 0, _, q, _, _, _ => by
    show ckF v w (q - q) q = 0
    rw [Nat.sub_self]; rfl
  | f + 1, b, q, c, hp, h => by
    have h0 := hp 0 (by omega)
    rw [Nat.add_zero] at h0
    have hp' : ∀ i, i < f → p (b + 1 + i) = decide (¬ ro (b + 1 + i) = 0) := fun i hi => by have := hp (i + 1) (by omega); rw [show b + 1 + i = b + (i + 1) by omega]; exact this
    simp only [lsC] at h ⊢
    simp only [mcF]
    by_cases e : ro b = 0
    · rw [if_pos e] at h ⊢
      rw [if_neg (by rw [h0]; simp [e])]
      exact mc_same f (b + 1) q c hp' h
    · rw [if_neg e] at h ⊢
      rw [if_pos (by rw [h0]; simp [e])]
      have hcn : q + 1 ≤ (lsC ro f (b + 1) (q + 1, upN c q b)).1 := by rw [lsC_cnt]; omega
      have hq := h q (Nat.le_refl _) (by omega)
      rw [lsC_lo f (b + 1) (q + 1) _ q (by omega), upN_at] at hq
      rw [show (lsC ro f (b + 1) (q + 1, upN c q b)).1 - q = ((lsC ro f (b + 1) (q + 1, upN c q b)).1 - (q + 1)) + 1 by omega]
      simp only [ckF]
      by_cases g : v q = w q
      · rw [if_pos g, if_pos (hq.mp g)]
        exact mc_same f (b + 1) (q + 1) _ hp' (fun i h1 h2 => h i (by omega) h2)
      · rw [if_neg g, if_neg (fun z => g (hq.mpr z))]
        omega
theorem mc_cut {p ok : Nat → Bool} : ∀ f d b q, (∀ i, f ≤ i → i < f + d → p (b + i) = false) → mcF p ok (f + d) b q = mcF p ok f b q
  | 0, 0, _, _, _ => rfl
  | 0, d + 1, b, q, h => by
    rw [show 0 + (d + 1) = (0 + d) + 1 by omega]
    simp only [mcF]
    have h0 := h 0 (by omega) (by omega)
    rw [Nat.add_zero] at h0
    rw [if_neg (by rw [h0]; simp), mc_cut 0 d (b + 1) q (fun i h1 h2 => by have := h (i + 1) (by omega) (by omega); rw [show b + 1 + i = b + (i + 1) by omega]; exact this)]
    rfl
  | f + 1, d, b, q, h => by
    rw [show f + 1 + d = (f + d) + 1 by omega]
    have h' : ∀ i, f ≤ i → i < f + d → p (b + 1 + i) = false := fun i h1 h2 => by have := h (i + 1) (by omega) (by omega); rw [show b + 1 + i = b + (i + 1) by omega]; exact this
    simp only [mcF]
    rw [mc_cut f d (b + 1) (q + 1) h', mc_cut f d (b + 1) q h']
theorem pcn_1 : ∀ k, k < 64 → ¬ k = 0 → 1 ≤ pcn k := by decide +kernel
section FK
variable {bn lc cc fb fl : Nat} {ld : Int64} {cs re ro od fk : Nat → Nat} {kg co : Nat → Int64} {wr fd : Int32} {rows rounds costs lists : Nat → Int32}
variable {tl : Int64} {tk : Nat → Int64} {tbs : Nat → Int32} {S : Nat → Nat → Int32} {Cc : Nat → Nat → Int64} {lo : Nat} {kn : Nat → Nat} {W B C : Nat → Int32} {tsec tm : Int32}
theorem fr_ls (hbn : bn ≤ 6) (hod : ∀ j, j < 384 → od j < 6) (h : FR bn ld lc cc cs kg re ro co od wr fb fl fk rows rounds costs lists fd) : ∀ k, k < 64 → ¬ costs k < 0 → 1 ≤ pcn k ∧ pcn k ≤ 6 ∧ (∀ i, i < 6 → od (k * 6 + i) < 6) ∧ ∀ i, i < 6 → lists (6 * k + i) = if i < pcn k then nI (od (k * 6 + i)) else -1 := by
  obtain ⟨g1, g2⟩ := fr_p hbn h
  obtain ⟨-, -, -, ⟨-, -, r3, -, r5⟩, -⟩ := h
  intro k hk hc
  rcases r3 k hk with ⟨-, a2⟩ | ⟨a1, c, a2, a3, a4, a5⟩
  · have a2 : costs k = -1 := a2
    rw [a2] at hc
    exact absurd (by decide) hc
  · have h0 : ¬ k = 0 := fun z => by subst z; exact a1 (r5 0 (by omega) (Or.inl rfl)).2
    exact ⟨pcn_1 k hk h0, pcn_le k, fun i hi => hod _ (by omega), a5⟩
theorem fr_check (hbn : bn ≤ 6) (hcc : cc ≤ 63) (hcs : ∀ j, j < 63 → cs j < 64) (hod : ∀ j, j < 384 → od j < 6) (hT : TwR tl tk tbs S Cc lo kn W B C) (htm : tsec = tm) (h : FR bn ld lc cc cs kg re ro co od wr fb fl fk rows rounds costs lists fd) :
    nI (ckF (fun k => crE tl tsec (crF S Cc tk tbs od (cs k * 6) (pcn (cs k)) (pcn (cs k) + 1) 0 0 0 0 0)) (fun k => co (cs k)) cc 0) = nI (mcF (fun k => decide (0 ≤ costs k)) (fun k => decide (rndB (bsI kn) W B (nI lo) tm (fun i => od (k * 6 + i)) (pcn k) ∧ cosF C (fun i => od (k * 6 + i)) (pcn k) = costs k)) 63 1 0) := by
  subst htm
  have hcol := fun j => fr_col (j := j) hbn hcc hcs h
  obtain ⟨g1, g2⟩ := fr_p hbn h
  obtain ⟨p1, p2⟩ := p64 hbn
  obtain ⟨-, -, -, ⟨-, -, r3, -⟩, -, ⟨c0, h6⟩, -⟩ := h
  have e1 : (lsC ro (2 ^ bn - 1) 1 (0, c0)).1 = cc := (congrArg Prod.fst h6).symm
  have e2 : (lsC ro (2 ^ bn - 1) 1 (0, c0)).2 = cs := (congrArg Prod.snd h6).symm
  refine congrArg nI ?_
  have e := mc_same (ro := ro) (p := fun k => decide (0 ≤ costs k)) (ok := fun k => decide (rndB (bsI kn) W B (nI lo) tsec (fun i => od (k * 6 + i)) (pcn k) ∧ cosF C (fun i => od (k * 6 + i)) (pcn k) = costs k)) (v := fun k => crE tl tsec (crF S Cc tk tbs od (cs k * 6) (pcn (cs k)) (pcn (cs k) + 1) 0 0 0 0 0)) (w := fun k => co (cs k)) (2 ^ bn - 1) 1 0 c0 (fun i hi => g1 (1 + i) (by omega)) (fun i _ hi => by
    rw [e1] at hi
    rw [e2]
    have hc := hcs i (by omega)
    obtain ⟨b1, b2, b3⟩ := hcol i hi
    have hp := pcn_1 (cs i) hc (by omega)
    have hp6 := pcn_le (cs i)
    rcases r3 (cs i) hc with ⟨a1, -⟩ | ⟨-, c, a2, a3, a4, -⟩
    · exact absurd a1 b1
    · have a3 : co (cs i) = lN c := a3
      have a4 : costs (cs i) = nI c := a4
      show crE tl tsec (crF S Cc tk tbs od (cs i * 6) (pcn (cs i)) (pcn (cs i) + 1) 0 0 0 0 0) = co (cs i) ↔ decide (rndB (bsI kn) W B (nI lo) tsec (fun j => od (cs i * 6 + j)) (pcn (cs i)) ∧ cosF C (fun j => od (cs i * 6 + j)) (pcn (cs i)) = costs (cs i)) = true
      rw [decide_eq_true_iff, a3, a4]
      exact ck_ok hT (fun j hj => hod _ (by omega)) hp hp6 a2)
  rw [e1, Nat.sub_zero] at e
  rw [e]
  have e3 := mc_cut (p := fun k => decide (0 ≤ costs k)) (ok := fun k => decide (rndB (bsI kn) W B (nI lo) tsec (fun i => od (k * 6 + i)) (pcn k) ∧ cosF C (fun i => od (k * 6 + i)) (pcn k) = costs k)) (2 ^ bn - 1) (64 - 2 ^ bn) 1 0 (fun i a1 a2 => by
    show decide (0 ≤ costs (1 + i)) = false
    rw [g1 _ (by omega), g2 _ (by omega) (Or.inr (by omega))]; rfl)
  rw [show (2 ^ bn - 1) + (64 - 2 ^ bn) = 63 by omega] at e3
  exact e3.symm
end FK
