/-! a row is taken down by both alike; all rows -/
section VI
variable {tl : Int64} {tk : Nat → Int64} {tbs : Nat → Int32} {S : Nat → Nat → Int32} {Cc : Nat → Nat → Int64} {lo : Nat} {kn : Nat → Nat} {W B C : Nat → Int32} {tm : Int32} {bn : Nat} {kg : Nat → Int64}
theorem or_ne0 {a b : Nat} : ¬ (a ||| 2 ^ b) = 0 := fun q => by
  have h : (a ||| 2 ^ b).testBit b = true := by rw [Nat.testBit_or, Nat.testBit_two_pow]; simp
  rw [q, Nat.zero_testBit] at h
  cases h
theorem lsU_in {L : Nat → Int32} {st : Nat} {rw : Nat → Nat} {ln i : Nat} (hi : i < 6) : lsU L st rw ln (6 * st + i) = if i < ln then nI (rw i) else -1 := by
  unfold lsU lsK
  rw [if_pos (by omega), show 6 * st + i - 6 * st = i by omega]
theorem lsU_out {L : Nat → Int32} {st s2 : Nat} {rw : Nat → Nat} {ln i : Nat} (h : ¬ s2 = st) (hi : i < 6) : lsU L st rw ln (6 * s2 + i) = L (6 * s2 + i) := by
  unfold lsU lsK
  rw [if_neg (by omega)]
theorem msk_b {rw : Nat → Nat} : ∀ n, (∀ i, i < n → rw i < bn) → msk rw n < 2 ^ bn
  | 0, _ => Nat.pow_pos (by decide)
  | n + 1, h => by simp only [msk]; exact Nat.or_lt_two_pow (msk_b n (fun i hi => h i (by omega))) (Nat.pow_lt_pow_right (by decide) (h n (by omega)))
theorem visit {l b : Nat} {rw row : Nat → Nat} {sp : Int32} {pd : Int64} {re ro od : Nat → Nat} {co : Nat → Int64} {r0 : Nat → Nat} {z : ZT} (hT : TwR tl tk tbs S Cc lo kn W B C) (hbn : bn ≤ 6) (h6 : ∀ j, j < 6 → rw j < 6) (hl : l + 1 ≤ 6) (hR : Rok bn rw (l + 1)) (hb : rw l = b) (hrow : ∀ j, j < l + 1 → row j = rw j) (hp : Pfx lo kn W B C rw (l + 1) sp pd) (hrb : rowB (bsI kn) W B (nI lo) tm rw (l + 1)) (h : RelP bn (r0, re, ro, co, od) z) :
    RelP bn (row, upN re (msk rw (l + 1)) (re (msk rw (l + 1)) ||| 2 ^ b), (goH tm S Cc (msk rw (l + 1)) b sp pd row (ro, co, od)).1, (goH tm S Cc (msk rw (l + 1)) b sp pd row (ro, co, od)).2.1, (goH tm S Cc (msk rw (l + 1)) b sp pd row (ro, co, od)).2.2) (scU (bsI kn) W B C (nI lo) tm rw (l + 1) z) := by
  obtain ⟨t1, t2, t3, t4, t5, t6, t7, t8⟩ := hT
  obtain ⟨p1, ⟨a, ha, rfl⟩, p3, rfl⟩ := hp
  obtain ⟨r1, r2, r3, r4, r5⟩ := h
  obtain ⟨hs, hpc⟩ := pcn_msk hbn (l + 1) hl hR
  have hb6 : b < 6 := hb ▸ h6 l (by omega)
  have hbb : b < bn := hb ▸ hR.1 l (by omega)
  have hs2 : msk rw (l + 1) < 2 ^ bn := msk_b (l + 1) hR.1
  have hs0 : ¬ msk rw (l + 1) = 0 := by simp only [msk]; exact or_ne0
  have el : rw (l + 1 - 1) = b := hb
  have hsec : secF W B rw (l + 1) 0 0 = nI a := by rw [secF_O, p1]; rfl
  obtain ⟨eS, eC⟩ := t6 (1 + b) 0 (by omega) (by omega)
  have hix : 7 * (rw (l + 1 - 1) + 1) = 7 * (1 + b) + 0 := by rw [el]; omega
  have hwt : 7 * (1 + b) + 0 < 49 := by omega
  have hcw := cN_ok t8 hwt
  have ecos : cosF C rw (l + 1) = nI (cN C (7 * (1 + b) + 0) + csN C rw (l + 1)) := by
    unfold cosF
    rw [cosS_N t8 h6 (by omega) hl (l + 1) (Nat.le_refl _), hix]
  have hcl := csN_le t8 h6 (l + 1) hl
  have eco : lN (csN C rw (l + 1)) + Cc (1 + b) 0 = lN (cN C (7 * (1 + b) + 0) + csN C rw (l + 1)) := by
    rw [eC, hcw.1, nIl (by omega), lN_add, Nat.add_comm]
  have hrd : rndB (bsI kn) W B (nI lo) tm rw (l + 1) ↔ ¬ (S (1 + b) 0 = -1 ∨ ¬ nI a + S (1 + b) 0 ≤ tm) := by
    rw [eS]
    constructor
    · rintro ⟨-, g1, g2⟩ q
      rw [hix] at g1 g2
      rw [hsec] at g2
      rcases q with q | q
      · rw [q] at g1; exact absurd g1 (by decide)
      · exact q g2
    · intro q
      refine ⟨hrb, ?_, ?_⟩
      · rw [hix]
        rcases t7 _ hwt with g | ⟨n, g1, g2⟩
        · exact absurd (Or.inl g) q
        · rw [g2]; exact Int32.not_lt.mp (nI_nn (by omega))
      · rw [hix, hsec]
        exact Classical.byContradiction (fun g => q (Or.inr g))
  have hlab := lab_up (f := z.1) (k := 6 * msk rw (l + 1) + b) (by omega) r4
  have hrows := bit_up (s1 := msk rw (l + 1)) (b1 := b) r1 hb6
  have hrnds := bit_up (s1 := msk rw (l + 1)) (b1 := b) r2 hb6
  have r5' : ∀ st, st < 64 → (st = 0 ∨ 2 ^ bn ≤ st) → upN re (msk rw (l + 1)) (re (msk rw (l + 1)) ||| 2 ^ b) st = 0 := fun st h1 h2 => by
    rw [upN_ne (by omega)]; exact (r5 st h1 h2).1
  have r6' : ∀ st, st < 64 → (st = 0 ∨ 2 ^ bn ≤ st) → upN ro (msk rw (l + 1)) (ro (msk rw (l + 1)) ||| 2 ^ b) st = 0 := fun st h1 h2 => by
    rw [upN_ne (by omega)]; exact (r5 st h1 h2).2
  unfold scU
  rw [if_pos hrb]
  by_cases hq : rndB (bsI kn) W B (nI lo) tm rw (l + 1)
  · have hg : ¬ (S (1 + b) 0 = -1 ∨ ¬ nI a + S (1 + b) 0 ≤ tm) := hrd.mp hq
    rw [if_pos hq, el]
    have hbet : (ro (msk rw (l + 1)) = 0 ∨ lN (csN C rw (l + 1)) + Cc (1 + b) 0 < co (msk rw (l + 1))) ↔ (z.2.2.1 (msk rw (l + 1)) < 0 ∨ cosF C rw (l + 1) < z.2.2.1 (msk rw (l + 1))) := by
      rw [eco, ecos]
      rcases r3 _ hs with ⟨g1, g2⟩ | ⟨g1, c, g2, g3, g4, g5⟩
      · constructor
        · intro _; rw [g2]; exact Or.inl (by decide)
        · intro _; exact Or.inl g1
      · have g3 : co (msk rw (l + 1)) = lN c := g3
        rw [g3, g4]
        constructor
        · rintro (q | q)
          · exact absurd q g1
          · exact Or.inr ((nI_ltI (by omega) (by omega)).mpr ((lN_lt (by omega) (by omega)).mp q))
        · rintro (q | q)
          · exact absurd q (nI_nn (by omega))
          · exact Or.inr ((lN_lt (by omega) (by omega)).mpr ((nI_ltI (by omega) (by omega)).mp q))
    by_cases hbt : ro (msk rw (l + 1)) = 0 ∨ lN (csN C rw (l + 1)) + Cc (1 + b) 0 < co (msk rw (l + 1))
    · have e : goH tm S Cc (msk rw (l + 1)) b (nI a) (lN (csN C rw (l + 1))) row (ro, co, od) = (upN ro (msk rw (l + 1)) (ro (msk rw (l + 1)) ||| 2 ^ b), vp_updL co (msk rw (l + 1)) (lN (csN C rw (l + 1)) + Cc (1 + b) 0), va_cpy row od 0 (msk rw (l + 1) * 6) (pcn (msk rw (l + 1)))) := by
        unfold goH
        rw [if_neg hg, if_pos hbt]
      rw [e, if_pos (hbet.mp hbt)]
      refine ⟨hrows, hrnds, fun st hst => ?_, hlab, fun st h1 h2 => ⟨r5' st h1 h2, r6' st h1 h2⟩⟩
      show CR (upN ro (msk rw (l + 1)) (ro (msk rw (l + 1)) ||| 2 ^ b) st) (vp_updL co (msk rw (l + 1)) (lN (csN C rw (l + 1)) + Cc (1 + b) 0) st) (va_cpy row od 0 (msk rw (l + 1) * 6) (pcn (msk rw (l + 1)))) (upd z.2.2.1 (msk rw (l + 1)) (cosF C rw (l + 1)) st) (lsU z.2.2.2.1 (msk rw (l + 1)) rw (l + 1)) st
      by_cases q : st = msk rw (l + 1)
      · subst q
        rw [upN_at, pk_uLs, pk_us, eco, ecos]
        refine Or.inr ⟨or_ne0, _, by omega, rfl, rfl, fun i hi => ?_⟩
        rw [lsU_in hi, hpc]
        by_cases g : i < l + 1
        · rw [if_pos g, if_pos g]
          unfold va_cpy
          rw [if_pos (by omega), show 0 + (msk rw (l + 1) * 6 + i - msk rw (l + 1) * 6) = i by omega, hrow i g]
        · rw [if_neg g, if_neg g]
      · rw [upN_ne q, pk_uLn q, pk_un q]
        rcases r3 st hst with ⟨g1, g2⟩ | ⟨g1, c, g2, g3, g4, g5⟩
        · exact Or.inl ⟨g1, g2⟩
        · refine Or.inr ⟨g1, c, g2, g3, g4, fun i hi => ?_⟩
          rw [lsU_out q hi, g5 i hi]
          have hpl := pcn_le (msk rw (l + 1))
          unfold va_cpy
          rw [if_neg (show ¬ (msk rw (l + 1) * 6 ≤ st * 6 + i ∧ st * 6 + i < msk rw (l + 1) * 6 + pcn (msk rw (l + 1))) by omega)]
    · have e : goH tm S Cc (msk rw (l + 1)) b (nI a) (lN (csN C rw (l + 1))) row (ro, co, od) = (upN ro (msk rw (l + 1)) (ro (msk rw (l + 1)) ||| 2 ^ b), co, od) := by
        unfold goH
        rw [if_neg hg, if_neg hbt]
      rw [e, if_neg (fun q => hbt (hbet.mpr q))]
      refine ⟨hrows, hrnds, fun st hst => ?_, hlab, fun st h1 h2 => ⟨r5' st h1 h2, r6' st h1 h2⟩⟩
      show CR (upN ro (msk rw (l + 1)) (ro (msk rw (l + 1)) ||| 2 ^ b) st) (co st) od (z.2.2.1 st) z.2.2.2.1 st
      by_cases q : st = msk rw (l + 1)
      · subst q
        rw [upN_at]
        rcases r3 _ hs with ⟨g1, g2⟩ | ⟨g1, g2⟩
        · exact absurd (Or.inl g1) hbt
        · exact Or.inr ⟨or_ne0, g2⟩
      · rw [upN_ne q]; exact r3 st hst
  · have hg : S (1 + b) 0 = -1 ∨ ¬ nI a + S (1 + b) 0 ≤ tm := Classical.byContradiction (fun q => hq (hrd.mpr q))
    have e : goH tm S Cc (msk rw (l + 1)) b (nI a) (lN (csN C rw (l + 1))) row (ro, co, od) = (ro, co, od) := by
      unfold goH
      rw [if_pos hg]
    rw [e, if_neg hq, el]
    exact ⟨hrows, r2, r3, hlab, fun st h1 h2 => ⟨r5' st h1 h2, (r5 st h1 h2).2⟩⟩
/-- after place l from fr on: the reference comes to where place l is through, and both have the same -/
def SimT (tm : Int32) (tl : Int64) (kg : Nat → Int64) (tbs : Nat → Int32) (S : Nat → Nat → Int32) (Cc : Nat → Nat → Int64) (lo : Nat) (kn : Nat → Nat) (W B C : Nat → Int32) (bn n l : Nat) (r : (Nat → Nat) × ZT) (rw : Nat → Nat) (x : SR) : Prop :=
  ∃ (rv : Nat → Nat) (z : ZT), r = PPr (bsI kn) W B C (nI lo) tm bn n l rv z ∧ (∀ i, i < l → rv i = rw i) ∧ (∀ j, j < 6 → rv j < 6) ∧ RelP bn x z ∧ ∀ i, i < l → x.1 i = rw i
theorem full {l b : Nat} {rw : Nat → Nat} (hR : Rok bn rw l) (hl : bn ≤ l) (hb : b < bn) : (msk rw l).testBit b = true := by
  cases q : (msk rw l).testBit b with
  | true => rfl
  | false =>
    have := rok_lt hR hb (fun i hi e => by
      have := msk_bit.mpr ⟨i, hi, e⟩
      rw [q] at this
      cases this)
    omega
theorem fst_full {st : Nat} : ∀ d fr, fr + d = bn → (∀ b, fr ≤ b → b < bn → st.testBit b = true) → fst bn st fr = none
  | 0, fr, h, _ => fst_none (by omega)
  | d + 1, fr, h, g => by rw [fst_step (by omega) (g fr (Nat.le_refl _) (by omega))]; exact fst_full d (fr + 1) (by omega) (fun b h1 h2 => g b (by omega) h2)
theorem lp_sim {n l k : Nat} (hT : TwR tl tk tbs S Cc lo kn W B C) (hbn : bn ≤ 6) (hn : 7 ^ 7 ≤ n) (hkg : ∀ j, j < 2 ^ bn → kg j = wsum tk j bn) (hl : l < bn)
    (ih : ∀ (rw : Nat → Nat) (z : ZT) (x : SR) (sp : Int32) (pd : Int64), (∀ j, j < 6 → rw j < 6) → Rok bn rw (l + 1) → (∀ i, i < l + 1 → x.1 i = rw i) → Pfx lo kn W B C rw (l + 1) sp pd → RelP bn x z → SimT tm tl kg tbs S Cc lo kn W B C bn n (l + 1) (NXr (bsI kn) W B C (nI lo) tm bn n (l + 1) 0 rw z) rw (exF bn tm tl kg tbs S Cc k (l + 1) (msk rw (l + 1)) sp pd x)) :
    ∀ (d fr : Nat) (rw : Nat → Nat) (z : ZT) (x : SR) (sp : Int32) (pd : Int64) (st : Nat), fr + d = bn → st = msk rw l → (∀ j, j < 6 → rw j < 6) → Rok bn rw l → (∀ i, i < l → x.1 i = rw i) → Pfx lo kn W B C rw l sp pd → RelP bn x z → SimT tm tl kg tbs S Cc lo kn W B C bn n l (NXr (bsI kn) W B C (nI lo) tm bn n l fr rw z) rw (lpF (fun b y => if st.testBit b then y else apF bn tm tl kg tbs S Cc (exF bn tm tl kg tbs S Cc k) b l st sp pd y) d fr x)
  | 0, fr, rw, z, x, sp, pd, st, hd, hst, h6, hR, hx, hp, h => by
    refine ⟨rw, z, ?_, fun _ _ => rfl, h6, h, hx⟩
    exact nx_pop (fst_none (by omega))
  | d + 1, fr, rw, z, x, sp, pd, st, hd, hst, h6, hR, hx, hp, h => by
    subst hst
    have hfr : fr < bn := by omega
    simp only [lpF]
    by_cases hb : (msk rw l).testBit fr = true
    · rw [if_pos hb, nx_skip hfr hb]
      exact lp_sim hT hbn hn hkg hl ih d (fr + 1) rw z x sp pd (msk rw l) (by omega) rfl h6 hR hx hp h
    · rw [if_neg hb, nx_hit (fst_hit hfr hb)]
      obtain ⟨f1, f2⟩ := feas (tm := tm) (row := x.1) hT hbn hkg h6 (by omega) hR hfr hb hx hp
      have h61 : ∀ j, j < 6 → upN rw l fr j < 6 := up6 h6 (by omega)
      have hR1 : Rok bn (upN rw l fr) (l + 1) := rok_up hR hfr (fun i hi e => hb (msk_bit.mpr ⟨i, hi, e⟩))
      have e1 : upN rw l fr l = fr := upN_at
      have em : msk (upN rw l fr) (l + 1) = msk rw l ||| 2 ^ fr := by simp only [msk]; rw [e1, ← msk_congr l upN_lo]
      have eml : ∀ rv : Nat → Nat, (∀ i, i < l → rv i = rw i) → msk rw l = msk rv l := fun rv g => msk_congr l (fun i hi => (g i hi).symm)
      by_cases c1 : S (frm x.1 l) (1 + fr) = -1 ∨ tl < kg (msk rw l ||| 2 ^ fr)
      · rw [sc_out hbn hn h61 (by omega) hR1 (f1 c1), e1]
        have ea : apF bn tm tl kg tbs S Cc (exF bn tm tl kg tbs S Cc k) fr l (msk rw l) sp pd x = x := by unfold apF; rw [if_pos c1]
        rw [ea]
        obtain ⟨rv, z2, g1, g2, g3, g4, g5⟩ := lp_sim hT hbn hn hkg hl ih d (fr + 1) (upN rw l fr) z x sp pd (msk rw l) (by omega) (msk_congr l upN_lo) h61 (rok_le hR1 (by omega)) (fun i hi => (hx i hi).trans (upN_lo i hi)) (pfx_congr upN_lo hp) h
        exact ⟨rv, z2, g1, fun i hi => (g2 i hi).trans (upN_lo i hi).symm, g3, g4, fun i hi => (g5 i hi).trans (upN_lo i hi).symm⟩
      · obtain ⟨f3, f4⟩ := f2 c1
        by_cases c2 : sp + S (frm x.1 l) (1 + fr) + tbs fr ≤ tm
        · have hrb := f3.mpr c2
          rw [sc_in hbn hn h61 (by omega) hR1 hrb]
          have hrow : ∀ j, j < l + 1 → upN x.1 l fr j = upN rw l fr j := fun j hj => by
            by_cases q : j = l
            · subst q; rw [upN_at, upN_at]
            · rw [upN_ne q, upN_ne q]; exact hx j (by omega)
          obtain ⟨r0, re, ro, co, od⟩ := x
          have hv := visit (tm := tm) (row := upN r0 l fr) hT hbn h61 (by omega) hR1 e1 hrow f4 hrb h
          have hi := ih (upN rw l fr) _ _ _ _ h61 hR1 hrow f4 hv
          obtain ⟨rv, z2, g1, g2, g3, g4, g5⟩ := hi
          rw [g1]
          have ea : apF bn tm tl kg tbs S Cc (exF bn tm tl kg tbs S Cc k) fr l (msk rw l) sp pd (r0, re, ro, co, od) = exF bn tm tl kg tbs S Cc k (l + 1) (msk (upN rw l fr) (l + 1)) (sp + S (frm r0 l) (1 + fr) + tbs fr) (pd + Cc (frm r0 l) (1 + fr)) (upN r0 l fr, upN re (msk (upN rw l fr) (l + 1)) (re (msk (upN rw l fr) (l + 1)) ||| 2 ^ fr), (goH tm S Cc (msk (upN rw l fr) (l + 1)) fr (sp + S (frm r0 l) (1 + fr) + tbs fr) (pd + Cc (frm r0 l) (1 + fr)) (upN r0 l fr) (ro, co, od)).1, (goH tm S Cc (msk (upN rw l fr) (l + 1)) fr (sp + S (frm r0 l) (1 + fr) + tbs fr) (pd + Cc (frm r0 l) (1 + fr)) (upN r0 l fr) (ro, co, od)).2.1, (goH tm S Cc (msk (upN rw l fr) (l + 1)) fr (sp + S (frm r0 l) (1 + fr) + tbs fr) (pd + Cc (frm r0 l) (1 + fr)) (upN r0 l fr) (ro, co, od)).2.2) := by
            unfold apF
            rw [if_neg c1, if_neg (fun q => q c2), em]
          rw [ea]
          have e2 : PPr (bsI kn) W B C (nI lo) tm bn n (l + 1) rv z2 = NXr (bsI kn) W B C (nI lo) tm bn n l (fr + 1) rv z2 := by
            unfold PPr
            rw [if_neg (by omega)]
            show NXr (bsI kn) W B C (nI lo) tm bn n l (rv l + 1) rv z2 = _
            rw [g2 l (by omega), e1]
          rw [e2]
          have g2' : ∀ i, i < l → rv i = rw i := fun i hi => (g2 i (by omega)).trans (upN_lo i hi).symm
          obtain ⟨rv2, z3, k1, k2, k3, k4, k5⟩ := lp_sim hT hbn hn hkg hl ih d (fr + 1) rv z2 _ sp pd (msk rw l) (by omega) (eml rv g2') g3 ⟨fun j hj => by rw [g2' j hj]; exact hR.1 j hj, fun i j h1 h2 => by rw [g2' i (by omega), g2' j h2]; exact hR.2 i j h1 h2⟩ (fun i hi => (g5 i (by omega)).trans (g2 i (by omega)).symm) (pfx_congr (fun i hi => (g2' i hi).symm) hp) g4
          exact ⟨rv2, z3, k1, fun i hi => (k2 i hi).trans (g2' i hi), k3, k4, fun i hi => (k5 i hi).trans (g2' i hi)⟩
        · rw [sc_out hbn hn h61 (by omega) hR1 (fun q => c2 (f3.mp q)), e1]
          have ea : apF bn tm tl kg tbs S Cc (exF bn tm tl kg tbs S Cc k) fr l (msk rw l) sp pd x = x := by unfold apF; rw [if_neg c1, if_pos c2]
          rw [ea]
          obtain ⟨rv, z2, g1, g2, g3, g4, g5⟩ := lp_sim hT hbn hn hkg hl ih d (fr + 1) (upN rw l fr) z x sp pd (msk rw l) (by omega) (msk_congr l upN_lo) h61 (rok_le hR1 (by omega)) (fun i hi => (hx i hi).trans (upN_lo i hi)) (pfx_congr upN_lo hp) h
          exact ⟨rv, z2, g1, fun i hi => (g2 i hi).trans (upN_lo i hi).symm, g3, g4, fun i hi => (g5 i hi).trans (upN_lo i hi).symm⟩
theorem ex_sim {n : Nat} (hT : TwR tl tk tbs S Cc lo kn W B C) (hbn : bn ≤ 6) (hn : 7 ^ 7 ≤ n) (hkg : ∀ j, j < 2 ^ bn → kg j = wsum tk j bn) : ∀ (k l : Nat) (rw : Nat → Nat) (z : ZT) (x : SR) (sp : Int32) (pd : Int64), l ≤ bn → bn ≤ l + k → (∀ j, j < 6 → rw j < 6) → Rok bn rw l → (∀ i, i < l → x.1 i = rw i) → Pfx lo kn W B C rw l sp pd → RelP bn x z → SimT tm tl kg tbs S Cc lo kn W B C bn n l (NXr (bsI kn) W B C (nI lo) tm bn n l 0 rw z) rw (exF bn tm tl kg tbs S Cc k l (msk rw l) sp pd x)
  | 0, l, rw, z, x, sp, pd, h1, h2, h6, hR, hx, hp, h => by
    refine ⟨rw, z, ?_, fun _ _ => rfl, h6, h, hx⟩
    exact nx_pop (fst_full bn 0 (by omega) (fun b _ hb => full hR (by omega) hb))
  | k + 1, l, rw, z, x, sp, pd, h1, h2, h6, hR, hx, hp, h => by
    by_cases q : bn ≤ l
    · have e : exF bn tm tl kg tbs S Cc (k + 1) l (msk rw l) sp pd x = x := by simp only [exF]; rw [if_pos q]
      rw [e]
      refine ⟨rw, z, ?_, fun _ _ => rfl, h6, h, hx⟩
      exact nx_pop (fst_full bn 0 (by omega) (fun b _ hb => full hR q hb))
    · have e : exF bn tm tl kg tbs S Cc (k + 1) l (msk rw l) sp pd x = lpF (fun b y => if (msk rw l).testBit b then y else apF bn tm tl kg tbs S Cc (exF bn tm tl kg tbs S Cc k) b l (msk rw l) sp pd y) bn 0 x := by simp only [exF]; rw [if_neg q]
      rw [e]
      exact lp_sim hT hbn hn hkg (by omega) (fun rw z x sp pd a1 a2 a3 a4 a5 => ex_sim hT hbn hn hkg k (l + 1) rw z x sp pd (by omega) (by omega) a1 a2 a3 a4 a5) bn 0 rw z x sp pd (msk rw l) (by omega) rfl h6 hR hx hp h
/-- what a search finds: the same -/
theorem same_search {rc co' : Nat → Nat} {co : Nat → Int64} {od rwM : Nat → Nat} {L : Nat → Int32} (hT : TwR tl tk tbs S Cc lo kn W B C) (hbn : bn ≤ 6) (hkg : ∀ j, j < 2 ^ bn → kg j = wsum tk j bn) (h6 : ∀ j, j < 6 → rwM j < 6) : RelP bn (exF bn tm tl kg tbs S Cc 6 0 0 0 0 (rc, fun _ => 0, fun _ => 0, co, od)) (srM (bsI kn) W B C (nI lo) tm bn rwM L).2 := by
  have e : srM (bsI kn) W B C (nI lo) tm bn rwM L = NXr (bsI kn) W B C (nI lo) tm bn (7 ^ 7) 0 0 rwM (fun _ => 0, fun _ => 0, fun _ => -1, L, 0) := by
    unfold srM NXr
    have e2 : nxT bn rwM 0 1 = nxL bn rwM 0 0 := by unfold nxT; rw [if_neg (fun q => absurd q.2 (by omega))]
    rw [e2]
    rfl
  generalize hN : 7 ^ 7 = n at e
  have r0 : RelP bn (rc, fun _ => 0, fun _ => 0, co, od) (fun _ => 0, fun _ => 0, fun _ => -1, L, 0) := by
    refine ⟨fun st b _ _ => ?_, fun st b _ _ => ?_, fun st _ => Or.inl ⟨rfl, rfl⟩, ?_, fun _ _ _ => ⟨rfl, rfl⟩⟩
    · show (0 : Int32) = if (Nat.testBit 0 b) = true then 1 else 0
      rw [Nat.zero_testBit]; rfl
    · show (0 : Int32) = if (Nat.testBit 0 b) = true then 1 else 0
      rw [Nat.zero_testBit]; rfl
    · show (0 : Int32) = nI (cntF (fun j => decide (¬ (0 : Int32) = 0)) 384 0)
      decide +kernel
  obtain ⟨rv, z, g1, g2, g3, g4, g5⟩ := ex_sim (tm := tm) (n := n) hT hbn (by omega) hkg 6 0 rwM _ _ 0 0 (by omega) (by omega) h6 rok0 (fun i hi => absurd hi (by omega)) ⟨rfl, ⟨0, by omega, rfl⟩, Nat.zero_le _, rfl⟩ r0
  rw [e, g1]
  unfold PPr
  rw [if_pos rfl]
  exact g4
end VI
