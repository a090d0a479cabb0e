/-! the class: what is asked where something is found */
-/
theorem nth_in {k n : Nat} (hk : k < 64) (hn : n < pcn k) : ∃ j, j < 6 ∧ nthF k (nI n) 6 0 0 = nI j := by
  have z : ∀ k, k < 64 → ∀ n, n < 6 → n < pcn k → ∃ j, j < 6 ∧ nthF k (nI n) 6 0 0 = nI j := by decide +kernel
  exact z k hk n (Nat.lt_of_lt_of_le hn (pcn_le k)) hn
/-- the bin of the n-th label of a set -/
def nbN (k n : Nat) : Nat := (nthF k (nI n) 6 0 0).toNatClampNeg
/-- whether the q-th label from set b on leads nowhere -/
def lnF (re ro : Nat → Nat) : Nat → Nat → Nat → Int32
  | 0, _, _ => 0
  | f + 1, b, q => if q < pcn (re b) then (if (ro b).testBit (nbN (re b) q) then 0 else 1) else lnF re ro f (b + 1) (q - pcn (re b))
theorem ln01 {re ro : Nat → Nat} {r : Int32} : ∀ {f b q : Nat}, r = lnF re ro f b q → r = 0 ∨ r = 1
  | 0, _, _, h => Or.inl h
  | f + 1, b, q, h => by
    simp only [lnF] at h
    split at h
    · split at h
      · exact Or.inl h
      · exact Or.inr h
    · exact ln01 h
/-- each part of a column is a column -/
def suC (cs ro : Nat → Nat) (cc : Nat) : Prop := ∀ i, i < cc → ∀ j, 1 ≤ j → j < cs i → nI j &&& (nI (cs i) ^^^ -1) = 0 → ¬ ro j = 0
theorem wz8 {x : Nat} {r : Int32} (h : r = if nI x = 0 then 0 else 1) (hx : x < 64) (c : r = 0) : x = 0 := by
  rcases Nat.eq_zero_or_pos x with q | q
  · exact q
  · rw [if_neg (nI_ne0 q (by omega))] at h; rw [h] at c; exact absurd c (by decide)
theorem wz9 {x : Nat} {r : Int32} (h : r = if nI x = 0 then 0 else 1) (c : ¬ r = 0) : ¬ x = 0 := fun q => c (by rw [h, if_pos (by rw [q]; rfl)])
def nxF (od : Nat → Nat) (sx ln i : Nat) : Nat := if i < ln then 1 + od (sx + i) else 0
def crF (S : Nat → Nat → Int32) (C : Nat → Nat → Int64) (kg : Nat → Int64) (bs : Nat → Int32) (od : Nat → Nat) (sx ln : Nat) : Nat → Nat → Nat → Int32 → Int64 → Int64 → Option (Int32 × Int64 × Int64)
  | 0, _, _, sp, lo, co => some (sp, lo, co)
  | n + 1, i, pl, sp, lo, co => if S pl (nxF od sx ln i) = -1 then none else if nxF od sx ln i = 0 then crF S C kg bs od sx ln n (i + 1) (nxF od sx ln i) (sp + S pl (nxF od sx ln i)) lo (co + C pl (nxF od sx ln i)) else crF S C kg bs od sx ln n (i + 1) (nxF od sx ln i) (sp + S pl (nxF od sx ln i) + bs (nxF od sx ln i - 1)) (lo + kg (nxF od sx ln i - 1)) (co + C pl (nxF od sx ln i))
def crE (ld : Int64) (sec : Int32) : Option (Int32 × Int64 × Int64) → Int64
  | none => -1
  | some v => if ld < v.2.1 ∨ sec < v.1 then -1 else v.2.2
def ckF (v w : Nat → Int64) : Nat → Nat → Nat
  | 0, _ => 0
  | n + 1, k => if v k = w k then ckF v w n (k + 1) else 1 + k
set_option maxHeartbeats 4000000 in
set_option maxRecDepth 100000 in
theorem cR_leadsNowhere (l : Launch) (D : va_G) (kI kJ kZ kG kH : ClassId) (h0 : Nat) (tw : Nat) (q0 : Nat) (q1 : Nat) (q2 : Nat) (q3 : Nat) (q4 : Nat) (q5 : Nat) (q6 : Nat) (q7 : Nat) (bn : Nat) (ld : Int64) (vh : Int32) (lc : Nat) (cc : Nat) (cs : Nat → Nat) (kg : Nat → Int64) (re : Nat → Nat) (ro : Nat → Nat) (ba : Nat → Int32) (co : Nat → Int64) (od : Nat → Nat) (rw : Nat → Nat) (la : Nat) (hbn : bn ≤ 6) (hre : ∀ j, j < 64 → re j < 64) (hro : ∀ j, j < 64 → ro j < 64) (hla : la < 2 ^ 20) : Met l yR_leadsNowhere wR_leadsNowhere (rmL 2 0 0) (va_Pc [.ref h0, .int (nI la)] (fun U => wd D kI kJ kZ kG kH [(h0, .inr (4, [.ref tw, .int (nI bn), .long ld, .int vh, .int (nI lc), .int (nI cc), .ref q0, .ref q1, .ref q2, .ref q3, .ref q4, .ref q5, .ref q6, .ref q7])), (q0, .inl (kI, 63, .inl (bsI cs))), (q1, .inl (kJ, 64, .inr (.inl kg))), (q2, .inl (kI, 64, .inl (bsI re))), (q3, .inl (kI, 64, .inl (bsI ro))), (q4, .inl (kZ, 64, .inl ba)), (q5, .inl (kJ, 64, .inr (.inl co))), (q6, .inl (kI, 384, .inl (bsI od))), (q7, .inl (kI, 6, .inl (bsI rw)))] U)) (vp_Si (fun r : Int32 => r = lnF re ro (2 ^ bn - 1) 1 la)) 0 0 (fun _ => False) := by
  refine Met.ofW (cc := bR_leadsNowhere) (maxL := 5) (ret := (some .boolean)) (by decide) rfl ?_
  intro p e s m args below meth c s₁ B hml hv
  obtain ⟨rfl, hP, hK, hN⟩ := hv
  have hx := B.exec
  have hb := B.bytes
  have hr := B.returns
  have hts := atoms_spec (ws := wR_leadsNowhere) B.pre
  have hown : s.vm.findClass NR = some m.cls := findClass_of_methodNamed B.named
  have hlocks := B.notSynchronized
  have hl := lv_entry ([.ref h0, .int (nI la)]) (n := 5) (Nat.le_of_ble_eq_true rfl)
  rw [lg_entry_eq]
  generalize (lg_sl ([.ref h0, .int (nI la)]) ++ List.replicate (5 - (lg_sl ([.ref h0, .int (nI la)])).length) Slot.unset).toArray = ls at hl ⊢
  have hl : lv_has ls 5 [(0, .ref h0), (1, .int (nI la))] := hl
  have hp : 2 ^ bn ≤ 64 := Nat.le_trans (Nat.pow_le_pow_right (by decide) hbn) (by decide)
  have hp1 : 1 ≤ 2 ^ bn := Nat.one_le_two_pow
  have LP4 : ∀ (dd : Nat) (lf : Nat) (k : Nat) (ls : Array Slot), 2 ^ bn - k < dd → (lf < 2 ^ 20) → (1 ≤ k ∧ k ≤ 64) → (lnF re ro (2 ^ bn - 1) 1 la = lnF re ro (2 ^ bn - k) k lf) → lv_has ls 5 [(0, .ref h0), (1, .int (nI la)), (2, .int (nI lf)), (3, .int (nI k))] → W p l e (headSpec wR_leadsNowhere (rmL 2 0 0)).room s m ([.ref h0, .int (nI la)] : List Value).toArray below meth c s.heap [] 0 0 (MQ below (vp_Si (fun r : Int32 => r = lnF re ro (2 ^ bn - 1) 1 la)) ([.ref h0, .int (nI la)] : List Value).toArray s 0 0 (fun _ => False)) (F0 m 4 ls []) := by
    intro dd
    induction dd with
    | zero =>
      intro lf k ls hm
      exact absurd hm (Nat.not_lt_zero _)
    | succ dd ihLP4 =>
      intro lf k ls hm hlf hk hf hl
      refine lv_iload_n hx hb dR_leadsNowhere_4 rfl (lv_at hl 3 rfl) ?_
      refine lv_aload_n hx hb dR_leadsNowhere_5 rfl (lv_at hl 0 rfl) ?_
      refine vp_callSi (W.runV (C := NR) (As := []) (rest := [.int (nI k)]) ⟨hx, hb, hml, hown, hts⟩ (cR_setCount l D kI kJ kZ kG kH h0 tw q0 q1 q2 q3 q4 q5 q6 q7 bn ld vh lc cc (bsI cs) kg (bsI re) (bsI ro) ba co (bsI od) (bsI rw) hbn) ⟨cB 0 hts hw453 hw7 hw450 (by decide +kernel) ⟨Nat.le_of_ble_eq_true rfl, Nat.le_of_ble_eq_true rfl⟩ rfl rfl, hts _ (gw_t _ hw452), hts _ (gw_t _ hs10)⟩ ⟨fun a U g mk q => ⟨q.1, q.2.calling g mk a⟩, va_recv hK hP (ci := 4) (q0 := 0) rfl rfl, fun U hU hW => ⟨rfl, wd.use hP hK hN hU hW⟩⟩ rfl rfl hl.1 rfl (lv_room (Nat.le_of_ble_eq_true rfl)) dR_leadsNowhere_6 ⟨Nat.le_of_ble_eq_true rfl, Nat.le_of_ble_eq_true rfl⟩) (fun r6 hr6 => ?_)
      subst hr6
      refine lv_icmp_ge (tgt := 68) hx hb dR_leadsNowhere_9 (by decide) (fun c9 => ?_) (fun c9 => ?_)
      · have c9 : 2 ^ bn ≤ k := (nI_leI (a := 2 ^ bn) (b := k) (by omega) (by omega)).mp c9
        refine lv_iconst (v := 0) hx hb dR_leadsNowhere_68 (by decide) ?_
        exact W.zret (v := 0) (ty := .boolean) hx hb hr (by decide) (fun t ht9 hW9 => ⟨_, rfl, by rw [hf, show 2 ^ bn - k = 0 by omega]; rfl, ht9⟩) t_nil dR_leadsNowhere_69
      · have c9 : ¬ 2 ^ bn ≤ k := mt (nI_leI (a := 2 ^ bn) (b := k) (by omega) (by omega)).mpr c9
        refine lv_aload_n hx hb dR_leadsNowhere_12 rfl (lv_at hl 0 rfl) ?_
        refine va_get (D := D) (cl := rcl) (ci := 4) (v := .ref q2) (C := NR) (T := TR) (N := 14) hx hb hts (fun w h => gw_t w (uwR w h)) hown hK hP 0 rfl rfl 8 (by decide) (hts _ (gw_t _ hw181)) (fun _ h9 => h9) rfl dR_leadsNowhere_13 ?_
        refine lv_iload_n hx hb dR_leadsNowhere_16 rfl (lv_at hl 3 rfl) ?_
        refine ra_i (k := k) hx hb hK hP 3 0 rfl rfl (by omega) (by omega) dR_leadsNowhere_17 ?_
        refine lc_i (y := nI (re k)) (rfl) ?_
        refine vp_callSi (W.runS (As := [.int (nI (re k))]) (rest := []) ⟨hx, hb, hml, hown, hts⟩ (cJI_bitCount l (re k) (hre k (by omega))) ⟨cB 1 hts hw300 hw9 hw298 (by decide +kernel) ⟨Nat.le_of_ble_eq_true rfl, Nat.le_of_ble_eq_true rfl⟩ rfl rfl, hts _ (gw_t _ hw299)⟩ ⟨fun a U g mk q => ⟨q.1, trivial⟩, fun U hU hW => ⟨rfl, trivial⟩⟩ rfl rfl hl.1 rfl (lv_room (Nat.le_of_ble_eq_true rfl)) dR_leadsNowhere_18 ⟨Nat.le_of_ble_eq_true rfl, Nat.le_of_ble_eq_true rfl⟩) (fun r18 hr18 => ?_)
        subst hr18
        have hpc := pcn_le (re k)
        refine lv_istore (lv' := [(4, .int (nI (pcn (re k)))), (0, .ref h0), (1, .int (nI la)), (2, .int (nI lf)), (3, .int (nI k))]) hx hb dR_leadsNowhere_21 hl (by decide) rfl (fun ls hl => ?_)
        refine lv_iload_n hx hb dR_leadsNowhere_23 rfl (lv_at hl 3 rfl) ?_
        refine lv_iload hx hb dR_leadsNowhere_24 (lv_at hl 0 rfl) ?_
        refine lv_icmp_ge (tgt := 57) hx hb dR_leadsNowhere_26 (by decide) (fun c26 => ?_) (fun c26 => ?_)
        · have c26 : pcn (re k) ≤ lf := (nI_leI (a := pcn (re k)) (b := lf) (by omega) (by omega)).mp c26
          refine lv_iload_n hx hb dR_leadsNowhere_57 rfl (lv_at hl 3 rfl) ?_
          refine lv_iload hx hb dR_leadsNowhere_58 (lv_at hl 0 rfl) ?_
          refine lv_isub hx hb dR_leadsNowhere_60 ?_
          refine lc_i (y := nI (lf - pcn (re k))) (pk_sub (a := lf) (b := pcn (re k)) (by omega)) ?_
          refine lv_istore_n (lv' := [(2, .int (nI (lf - pcn (re k)))), (4, .int (nI (pcn (re k)))), (0, .ref h0), (1, .int (nI la)), (3, .int (nI k))]) hx hb dR_leadsNowhere_61 rfl hl (by decide) rfl (fun ls hl => ?_)
          refine lv_iinc (v := nI (k + 1)) (lv' := [(3, .int (nI (k + 1))), (2, .int (nI (lf - pcn (re k)))), (4, .int (nI (pcn (re k)))), (0, .ref h0), (1, .int (nI la))]) hx hb dR_leadsNowhere_62 hl (k := 4) rfl (nI_add k 1) (by decide) rfl (fun ls hl => ?_)
          refine lv_goto (tgt := 4) hx hb dR_leadsNowhere_65 (by decide) ?_
          exact ihLP4 (lf - pcn (re k)) (k + 1) ls (by omega) (by omega) (by omega) (by rw [hf, show 2 ^ bn - k = (2 ^ bn - (k + 1)) + 1 by omega]; simp only [lnF]; rw [if_neg (show ¬ lf < pcn (re k) by omega)]) (lv_sub hl [3, 4, 1, 0] rfl)
        · have c26 : ¬ pcn (re k) ≤ lf := mt (nI_leI (a := pcn (re k)) (b := lf) (by omega) (by omega)).mpr c26
          refine lv_aload_n hx hb dR_leadsNowhere_29 rfl (lv_at hl 1 rfl) ?_
          refine va_get (D := D) (cl := rcl) (ci := 4) (v := .ref q3) (C := NR) (T := TR) (N := 14) hx hb hts (fun w h => gw_t w (uwR w h)) hown hK hP 0 rfl rfl 9 (by decide) (hts _ (gw_t _ hw182)) (fun _ h9 => h9) rfl dR_leadsNowhere_30 ?_
          refine lv_iload_n hx hb dR_leadsNowhere_33 rfl (lv_at hl 4 rfl) ?_
          refine ra_i (k := k) hx hb hK hP 4 0 rfl rfl (by omega) (by omega) dR_leadsNowhere_34 ?_
          refine lc_i (y := nI (ro k)) (rfl) ?_
          refine lv_aload_n hx hb dR_leadsNowhere_35 rfl (lv_at hl 1 rfl) ?_
          refine va_get (D := D) (cl := rcl) (ci := 4) (v := .ref q2) (C := NR) (T := TR) (N := 14) hx hb hts (fun w h => gw_t w (uwR w h)) hown hK hP 0 rfl rfl 8 (by decide) (hts _ (gw_t _ hw181)) (fun _ h9 => h9) rfl dR_leadsNowhere_36 ?_
          refine lv_iload_n hx hb dR_leadsNowhere_39 rfl (lv_at hl 4 rfl) ?_
          refine ra_i (k := k) hx hb hK hP 3 0 rfl rfl (by omega) (by omega) dR_leadsNowhere_40 ?_
          refine lc_i (y := nI (re k)) (rfl) ?_
          refine lv_iload_n hx hb dR_leadsNowhere_41 rfl (lv_at hl 3 rfl) ?_
          refine vp_callSi ((va_runSN (As := [.int (nI (re k)), .int (nI lf)]) (rest := [.int (nI (ro k))]) ⟨hx, hb, hml, hown, hts⟩ (cC_nthBin l (re k) (nI lf) (Nat.lt_trans (hre k (by omega)) (by decide))) ⟨va_cnB (host := "RoundColumns") 2 hts (gw_good gw_t (gw_c hw456 gw_s)) rfl rfl rfl (hN.1 _ (by decide +kernel)) (hts _ (gw_t _ hw1)) (by decide +kernel) ⟨Nat.le_of_ble_eq_true rfl, Nat.le_of_ble_eq_true rfl⟩, hts _ (gw_t _ hw455), trivial⟩ ⟨fun a U g mk q => ⟨q.1, trivial⟩, fun U hU hW => ⟨rfl, trivial⟩⟩ rfl rfl hl.1 rfl (lv_room (Nat.le_of_ble_eq_true rfl)) dR_leadsNowhere_42 ⟨Nat.le_of_ble_eq_true rfl, Nat.le_of_ble_eq_true rfl⟩).run) (fun r42 hr42 => ?_)
          obtain ⟨j5, hj5, e5⟩ := nth_in (n := lf) (hre k (by omega)) (by omega)
          have e6 : nbN (re k) lf = j5 := by unfold nbN; rw [e5, nI_clamp (by omega)]
          rw [e5] at hr42
          subst hr42
          refine vp_callSi ((va_runSN (As := [.int (nI (ro k)), .int (nI j5)]) (rest := []) ⟨hx, hb, hml, hown, hts⟩ (cC_isIn l (ro k) j5 (Nat.lt_trans (hro k (by omega)) (by decide)) (by omega)) ⟨va_cnB (host := "RoundColumns") 2 hts (gw_good gw_t (gw_c hw341 gw_s)) rfl rfl rfl (hN.1 _ (by decide +kernel)) (hts _ (gw_t _ hw1)) (by decide +kernel) ⟨Nat.le_of_ble_eq_true rfl, Nat.le_of_ble_eq_true rfl⟩, hts _ (gw_t _ hw340), trivial⟩ ⟨fun a U g mk q => ⟨q.1, trivial⟩, fun U hU hW => ⟨rfl, trivial⟩⟩ rfl rfl hl.1 rfl (lv_room (Nat.le_of_ble_eq_true rfl)) dR_leadsNowhere_45 ⟨Nat.le_of_ble_eq_true rfl, Nat.le_of_ble_eq_true rfl⟩).run) (fun r45 hr45 => ?_)
          refine lv_if_ne (tgt := 55) hx hb dR_leadsNowhere_48 (by decide) (fun c48 => ?_) (fun c48 => ?_)
          · have w48 := w_t hr45 c48
            refine lv_iconst (v := 0) hx hb dR_leadsNowhere_55 (by decide) ?_
            exact W.zret (v := 0) (ty := .boolean) hx hb hr (by decide) (fun t ht9 hW9 => ⟨_, rfl, by rw [hf, show 2 ^ bn - k = (2 ^ bn - (k + 1)) + 1 by omega]; simp only [lnF]; rw [if_pos (show lf < pcn (re k) by omega), e6, if_pos w48], ht9⟩) t_nil dR_leadsNowhere_56
          · have w48 := w_f hr45 c48
            refine lv_iconst (v := 1) hx hb dR_leadsNowhere_51 (by decide) ?_
            refine lv_goto (tgt := 56) hx hb dR_leadsNowhere_52 (by decide) ?_
            exact W.zret (v := 1) (ty := .boolean) hx hb hr (by decide) (fun t ht9 hW9 => ⟨_, rfl, by rw [hf, show 2 ^ bn - k = (2 ^ bn - (k + 1)) + 1 by omega]; simp only [lnF]; rw [if_pos (show lf < pcn (re k) by omega), e6, if_neg w48], ht9⟩) t_nil dR_leadsNowhere_56
  refine lv_iload_n hx hb dR_leadsNowhere_0 rfl (lv_at hl 1 rfl) ?_
  refine lv_istore_n (lv' := [(2, .int (nI la)), (0, .ref h0), (1, .int (nI la))]) hx hb dR_leadsNowhere_1 rfl hl (by decide) rfl (fun ls hl => ?_)
  refine lv_iconst (v := 1) hx hb dR_leadsNowhere_2 (by decide) ?_
  refine lv_istore_n (lv' := [(3, .int 1), (2, .int (nI la)), (0, .ref h0), (1, .int (nI la))]) hx hb dR_leadsNowhere_3 rfl hl (by decide) rfl (fun ls hl => ?_)
  exact LP4 _ la 1 ls (Nat.lt_succ_self _) (by omega) (by omega) rfl (lv_sub hl [2, 3, 1, 0] rfl)

set_option maxHeartbeats 4000000 in
set_option maxRecDepth 100000 in
theorem cR_areSubsetsColumns (l : Launch) (D : va_G) (kI kJ kZ kG kH : ClassId) (h0 : Nat) (tw : Nat) (q0 : Nat) (q1 : Nat) (q2 : Nat) (q3 : Nat) (q4 : Nat) (q5 : Nat) (q6 : Nat) (q7 : Nat) (bn : Nat) (ld : Int64) (vh : Int32) (lc : Nat) (cc : Nat) (cs : Nat → Nat) (kg : Nat → Int64) (re : Nat → Nat) (ro : Nat → Nat) (ba : Nat → Int32) (co : Nat → Int64) (od : Nat → Nat) (rw : Nat → Nat) (hcc : cc ≤ 63) (hcs : ∀ j, j < 63 → cs j < 64) (hro : ∀ j, j < 64 → ro j < 64) : Met l yR_areSubsetsColumns wR_areSubsetsColumns (rmL 1 0 0) (va_Pc [.ref h0] (fun U => wd D kI kJ kZ kG kH [(h0, .inr (4, [.ref tw, .int (nI bn), .long ld, .int vh, .int (nI lc), .int (nI cc), .ref q0, .ref q1, .ref q2, .ref q3, .ref q4, .ref q5, .ref q6, .ref q7])), (q0, .inl (kI, 63, .inl (bsI cs))), (q1, .inl (kJ, 64, .inr (.inl kg))), (q2, .inl (kI, 64, .inl (bsI re))), (q3, .inl (kI, 64, .inl (bsI ro))), (q4, .inl (kZ, 64, .inl ba)), (q5, .inl (kJ, 64, .inr (.inl co))), (q6, .inl (kI, 384, .inl (bsI od))), (q7, .inl (kI, 6, .inl (bsI rw)))] U)) (vp_Si (fun r : Int32 => (r = 1 ∧ suC cs ro cc) ∨ (r = 0 ∧ ¬ suC cs ro cc))) 0 0 (fun _ => False) := by
  refine Met.ofW (cc := bR_areSubsetsColumns) (maxL := 4) (ret := (some .boolean)) (by decide) rfl ?_
  intro p e s m args below meth c s₁ B hml hv
  obtain ⟨rfl, hP, hK, hN⟩ := hv
  have hx := B.exec
  have hb := B.bytes
  have hr := B.returns
  have hts := atoms_spec (ws := wR_areSubsetsColumns) B.pre
  have hown : s.vm.findClass NR = some m.cls := findClass_of_methodNamed B.named
  have hlocks := B.notSynchronized
  have hl := lv_entry ([.ref h0]) (n := 4) (Nat.le_of_ble_eq_true rfl)
  rw [lg_entry_eq]
  generalize (lg_sl ([.ref h0]) ++ List.replicate (4 - (lg_sl ([.ref h0])).length) Slot.unset).toArray = ls at hl ⊢
  have hl : lv_has ls 4 [(0, .ref h0)] := hl
  have LP2 : ∀ (dd : Nat) (k : Nat) (ls : Array Slot), cc - k < dd → (k ≤ 64) → (∀ i, i < k → ∀ j, 1 ≤ j → j < cs i → nI j &&& (nI (cs i) ^^^ -1) = 0 → ¬ ro j = 0) → lv_has ls 4 [(0, .ref h0), (1, .int (nI k))] → W p l e (headSpec wR_areSubsetsColumns (rmL 1 0 0)).room s m ([.ref h0] : List Value).toArray below meth c s.heap [] 0 0 (MQ below (vp_Si (fun r : Int32 => (r = 1 ∧ suC cs ro cc) ∨ (r = 0 ∧ ¬ suC cs ro cc))) ([.ref h0] : List Value).toArray s 0 0 (fun _ => False)) (F0 m 2 ls []) := by
    intro dd
    induction dd with
    | zero =>
      intro k ls hm
      exact absurd hm (Nat.not_lt_zero _)
    | succ dd ihLP2 =>
      intro k ls hm hk hout hl
      refine lv_iload_n hx hb dR_areSubsetsColumns_2 rfl (lv_at hl 1 rfl) ?_
      refine lv_aload_n hx hb dR_areSubsetsColumns_3 rfl (lv_at hl 0 rfl) ?_
      refine va_get (D := D) (cl := rcl) (ci := 4) (v := .int (nI cc)) (C := NR) (T := TR) (N := 14) hx hb hts (fun w h => gw_t w (uwR w h)) hown hK hP 0 rfl rfl 5 (by decide) (hts _ (gw_t _ hw174)) (fun _ h9 => h9) rfl dR_areSubsetsColumns_4 ?_
      refine lv_icmp_ge (tgt := 54) hx hb dR_areSubsetsColumns_7 (by decide) (fun c7 => ?_) (fun c7 => ?_)
      · have c7 : cc ≤ k := (nI_leI (a := cc) (b := k) (by omega) (by omega)).mp c7
        refine lv_iconst (v := 1) hx hb dR_areSubsetsColumns_54 (by decide) ?_
        exact W.zret (v := 1) (ty := .boolean) hx hb hr (by decide) (fun t ht9 hW9 => ⟨_, rfl, Or.inl ⟨rfl, fun i hi => hout i (by omega)⟩, ht9⟩) t_nil dR_areSubsetsColumns_55
      · have c7 : ¬ cc ≤ k := mt (nI_leI (a := cc) (b := k) (by omega) (by omega)).mpr c7
        refine lv_aload_n hx hb dR_areSubsetsColumns_10 rfl (lv_at hl 0 rfl) ?_
        refine va_get (D := D) (cl := rcl) (ci := 4) (v := .ref q0) (C := NR) (T := TR) (N := 14) hx hb hts (fun w h => gw_t w (uwR w h)) hown hK hP 0 rfl rfl 6 (by decide) (hts _ (gw_t _ hw176)) (fun _ h9 => h9) rfl dR_areSubsetsColumns_11 ?_
        refine lv_iload_n hx hb dR_areSubsetsColumns_14 rfl (lv_at hl 1 rfl) ?_
        refine ra_i (k := k) hx hb hK hP 1 0 rfl rfl (by omega) (by omega) dR_areSubsetsColumns_15 ?_
        refine lc_i (y := nI (cs k)) (rfl) ?_
        have hck := hcs k (by omega)
        refine lv_istore_n (lv' := [(2, .int (nI (cs k))), (0, .ref h0), (1, .int (nI k))]) hx hb dR_areSubsetsColumns_16 rfl hl (by decide) rfl (fun ls hl => ?_)
        have LPi : ∀ (dd : Nat) (j : Nat) (ls : Array Slot), cs k - j < dd → (1 ≤ j ∧ j ≤ 64) → (∀ i, 1 ≤ i → i < j → nI i &&& (nI (cs k) ^^^ -1) = 0 → ¬ ro i = 0) → lv_has ls 4 [(0, .ref h0), (1, .int (nI k)), (2, .int (nI (cs k))), (3, .int (nI j))] → W p l e (headSpec wR_areSubsetsColumns (rmL 1 0 0)).room s m ([.ref h0] : List Value).toArray below meth c s.heap [] 0 0 (MQ below (vp_Si (fun r : Int32 => (r = 1 ∧ suC cs ro cc) ∨ (r = 0 ∧ ¬ suC cs ro cc))) ([.ref h0] : List Value).toArray s 0 0 (fun _ => False)) (F0 m 19 ls []) := by
          intro dd
          induction dd with
          | zero =>
            intro j ls hm
            exact absurd hm (Nat.not_lt_zero _)
          | succ dd ihLPi =>
            intro j ls hm hj hall hl
            refine lv_iload_n hx hb dR_areSubsetsColumns_19 rfl (lv_at hl 3 rfl) ?_
            refine lv_iload_n hx hb dR_areSubsetsColumns_20 rfl (lv_at hl 2 rfl) ?_
            refine lv_icmp_ge (tgt := 48) hx hb dR_areSubsetsColumns_21 (by decide) (fun c21 => ?_) (fun c21 => ?_)
            · have c21 : cs k ≤ j := (nI_leI (a := cs k) (b := j) (by omega) (by omega)).mp c21
              refine lv_iinc (v := nI (k + 1)) (lv' := [(1, .int (nI (k + 1))), (0, .ref h0), (2, .int (nI (cs k))), (3, .int (nI j))]) hx hb dR_areSubsetsColumns_48 hl (k := 1) rfl (nI_add k 1) (by decide) rfl (fun ls hl => ?_)
              refine lv_goto (tgt := 2) hx hb dR_areSubsetsColumns_51 (by decide) ?_
              exact ihLP2 (k + 1) ls (by omega) (by omega) (fun i hi j h1 h2 h3 => by by_cases q : i = k; exact hall j h1 (by subst q; omega) (by subst q; exact h3); exact hout i (by omega) j h1 h2 h3) (lv_sub hl [1, 0] rfl)
            · have c21 : ¬ cs k ≤ j := mt (nI_leI (a := cs k) (b := j) (by omega) (by omega)).mpr c21
              refine lv_iload_n hx hb dR_areSubsetsColumns_24 rfl (lv_at hl 3 rfl) ?_
              refine lv_iload_n hx hb dR_areSubsetsColumns_25 rfl (lv_at hl 2 rfl) ?_
              refine lv_iconst (v := -1) hx hb dR_areSubsetsColumns_26 (by decide) ?_
              refine lv_ixor hx hb dR_areSubsetsColumns_27 ?_
              refine lv_iand hx hb dR_areSubsetsColumns_28 ?_
              refine lv_if_ne (tgt := 42) hx hb dR_areSubsetsColumns_29 (by decide) (fun c29 => ?_) (fun c29 => ?_)
              · refine lv_iinc (v := nI (j + 1)) (lv' := [(3, .int (nI (j + 1))), (0, .ref h0), (1, .int (nI k)), (2, .int (nI (cs k)))]) hx hb dR_areSubsetsColumns_42 hl (k := 3) rfl (nI_add j 1) (by decide) rfl (fun ls hl => ?_)
                refine lv_goto (tgt := 19) hx hb dR_areSubsetsColumns_45 (by decide) ?_
                exact ihLPi (j + 1) ls (by omega) (by omega) (fun i h1 h2 h3 => by by_cases q : i = j; (subst q; exact absurd h3 c29); exact hall i h1 (by omega) h3) (lv_sub hl [1, 2, 3, 0] rfl)
              · refine lv_aload_n hx hb dR_areSubsetsColumns_32 rfl (lv_at hl 0 rfl) ?_
                refine lv_iload_n hx hb dR_areSubsetsColumns_33 rfl (lv_at hl 3 rfl) ?_
                refine vp_callSi (W.runV (C := NR) (As := [.int (nI j)]) (rest := []) ⟨hx, hb, hml, hown, hts⟩ (cR_isColumn l D kI kJ kZ kG kH h0 tw q0 q1 q2 q3 q4 q5 q6 q7 bn ld vh lc cc (bsI cs) kg (bsI re) (bsI ro) ba co (bsI od) (bsI rw) j (by omega)) ⟨cB 1 hts hw505 hw7 hw502 (by decide +kernel) ⟨Nat.le_of_ble_eq_true rfl, Nat.le_of_ble_eq_true rfl⟩ rfl rfl, hts _ (gw_t _ hw504), hts _ (gw_t _ hs12)⟩ ⟨fun a U g mk q => ⟨q.1, q.2.calling g mk a⟩, va_recv hK hP (ci := 4) (q0 := 0) rfl rfl, fun U hU hW => ⟨rfl, wd.use hP hK hN hU hW⟩⟩ rfl rfl hl.1 rfl (lv_room (Nat.le_of_ble_eq_true rfl)) dR_areSubsetsColumns_34 ⟨Nat.le_of_ble_eq_true rfl, Nat.le_of_ble_eq_true rfl⟩) (fun r34 hr34 => ?_)
                refine lv_if_ne (tgt := 42) hx hb dR_areSubsetsColumns_37 (by decide) (fun c37 => ?_) (fun c37 => ?_)
                · refine lv_iinc (v := nI (j + 1)) (lv' := [(3, .int (nI (j + 1))), (0, .ref h0), (1, .int (nI k)), (2, .int (nI (cs k)))]) hx hb dR_areSubsetsColumns_42 hl (k := 3) rfl (nI_add j 1) (by decide) rfl (fun ls hl => ?_)
                  refine lv_goto (tgt := 19) hx hb dR_areSubsetsColumns_45 (by decide) ?_
                  exact ihLPi (j + 1) ls (by omega) (by omega) (fun i h1 h2 h3 => by by_cases q : i = j; (subst q; exact wz9 hr34 c37); exact hall i h1 (by omega) h3) (lv_sub hl [1, 2, 3, 0] rfl)
                · refine lv_iconst (v := 0) hx hb dR_areSubsetsColumns_40 (by decide) ?_
                  exact W.zret (v := 0) (ty := .boolean) hx hb hr (by decide) (fun t ht9 hW9 => ⟨_, rfl, Or.inr ⟨rfl, fun z => z k (by omega) j (by omega) (by omega) c29 (wz8 hr34 (hro j (by omega)) c37)⟩, ht9⟩) t_nil dR_areSubsetsColumns_41
        refine lv_iconst (v := 1) hx hb dR_areSubsetsColumns_17 (by decide) ?_
        refine lv_istore_n (lv' := [(3, .int 1), (2, .int (nI (cs k))), (0, .ref h0), (1, .int (nI k))]) hx hb dR_areSubsetsColumns_18 rfl hl (by decide) rfl (fun ls hl => ?_)
        exact LPi _ 1 ls (Nat.lt_succ_self _) (by omega) (fun i h1 h2 => absurd h2 (by omega)) (lv_sub hl [2, 3, 1, 0] rfl)
  refine lv_iconst (v := 0) hx hb dR_areSubsetsColumns_0 (by decide) ?_
  refine lv_istore_n (lv' := [(1, .int 0), (0, .ref h0)]) hx hb dR_areSubsetsColumns_1 rfl hl (by decide) rfl (fun ls hl => ?_)
  exact LP2 _ 0 ls (Nat.lt_succ_self _) (by omega) (fun i hi => absurd hi (Nat.not_lt_zero i)) (lv_sub hl [1, 0] rfl)

set_option maxHeartbeats 4000000 in
set_option maxRecDepth 100000 in
theorem cC_dropped (l : Launch) (D : va_G) (kI kJ kZ kG kH : ClassId) (h0 : Nat) (u : Nat) (x : Nat) (y : Nat) (f : Nat) (g : Nat) (wr : Int32) (f0 : Nat) (f1 : Nat) (f2 : Nat) (f3 : Nat) (f4 : Nat) (f5 : Nat) (f6 : Nat) (f7 : Nat) (bn : Nat) (ld : Int64) (vh : Int32) (lc : Nat) (cc : Nat) (cs : Nat → Nat) (kg : Nat → Int64) (re : Nat → Nat) (ro : Nat → Nat) (ba : Nat → Int32) (co : Nat → Int64) (od : Nat → Nat) (rw : Nat → Nat) (b : Int32) (hbn : bn ≤ 6) (hre : ∀ j, j < 64 → re j < 64) (hro : ∀ j, j < 64 → ro j < 64) (hlc : lc < 2 ^ 20) : Met l yC_dropped wC_dropped (rmL 3 0 0) (va_Pc [.ref h0, .int b] (fun U => wd D kI kJ kZ kG kH [(h0, .inr (5, [.ref u, .ref x, .ref y, .ref f, .ref g, .int wr])), (f, .inr (4, [.ref u, .int (nI bn), .long ld, .int vh, .int (nI lc), .int (nI cc), .ref f0, .ref f1, .ref f2, .ref f3, .ref f4, .ref f5, .ref f6, .ref f7])), (f0, .inl (kI, 63, .inl (bsI cs))), (f1, .inl (kJ, 64, .inr (.inl kg))), (f2, .inl (kI, 64, .inl (bsI re))), (f3, .inl (kI, 64, .inl (bsI ro))), (f4, .inl (kZ, 64, .inl ba)), (f5, .inl (kJ, 64, .inr (.inl co))), (f6, .inl (kI, 384, .inl (bsI od))), (f7, .inl (kI, 6, .inl (bsI rw)))] U)) (vp_Si (fun r : Int32 => r = if 0 ≤ b ∧ b < nI lc then lnF re ro (2 ^ bn - 1) 1 b.toNatClampNeg else 0)) 0 0 (fun _ => False) := by
  refine Met.ofW (cc := bC_dropped) (maxL := 2) (ret := (some .boolean)) (by decide) rfl ?_
  intro p e s m args below meth c s₁ B hml hv
  obtain ⟨rfl, hP, hK, hN⟩ := hv
  have hx := B.exec
  have hb := B.bytes
  have hr := B.returns
  have hts := atoms_spec (ws := wC_dropped) B.pre
  have hown : s.vm.findClass NC = some m.cls := findClass_of_methodNamed B.named
  have hlocks := B.notSynchronized
  have hl := lv_entry ([.ref h0, .int b]) (n := 2) (Nat.le_of_ble_eq_true rfl)
  rw [lg_entry_eq]
  generalize (lg_sl ([.ref h0, .int b]) ++ List.replicate (2 - (lg_sl ([.ref h0, .int b])).length) Slot.unset).toArray = ls at hl ⊢
  have hl : lv_has ls 2 [(0, .ref h0), (1, .int b)] := hl
  refine lv_iload_n hx hb dC_dropped_0 rfl (lv_at hl 1 rfl) ?_
  refine lv_aload_n hx hb dC_dropped_1 rfl (lv_at hl 0 rfl) ?_
  refine va_get (D := D) (cl := rcl) (ci := 5) (v := .ref f) (C := NC) (T := TC) (N := 6) hx hb hts (fun w h => gw_t w (uwC w h)) hown hK hP 0 rfl rfl 3 (by decide) (hts _ (gw_t _ hw223)) (fun _ h9 => h9) rfl dC_dropped_2 ?_
  refine va_get (D := D) (cl := rcl) (ci := 4) (v := .int (nI lc)) (C := NR) (T := TR) (N := 14) hx hb hts (fun w h => gw_t w (uwR w h)) hown hK hP 1 rfl rfl 4 (by decide) (hts _ (gw_t _ hw171)) (fun _ h9 => h9) rfl dC_dropped_5 ?_
  refine vp_callSi (W.runS (As := [.int b, .int (nI lc)]) (rest := []) ⟨hx, hb, hml, hown, hts⟩ (cC_isIndex l b (nI lc)) ⟨cB 2 hts hw269 hw1 hw267 (by decide +kernel) ⟨Nat.le_of_ble_eq_true rfl, Nat.le_of_ble_eq_true rfl⟩ rfl rfl, hts _ (gw_t _ hw268)⟩ ⟨fun a U g mk q => ⟨q.1, trivial⟩, fun U hU hW => ⟨rfl, trivial⟩⟩ rfl rfl hl.1 rfl (lv_room (Nat.le_of_ble_eq_true rfl)) dC_dropped_8 ⟨Nat.le_of_ble_eq_true rfl, Nat.le_of_ble_eq_true rfl⟩) (fun r8 hr8 => ?_)
  refine lv_if_eq (tgt := 29) hx hb dC_dropped_11 (by decide) (fun c11 => ?_) (fun c11 => ?_)
  · have w11 := w_f hr8 c11
    refine lv_iconst (v := 0) hx hb dC_dropped_29 (by decide) ?_
    exact W.zret (v := 0) (ty := .boolean) hx hb hr (by decide) (fun t ht9 hW9 => ⟨_, rfl, by rw [if_neg w11], ht9⟩) t_nil dC_dropped_30
  · have w11 := w_t hr8 c11
    obtain ⟨i9, hi9, rfl⟩ := ix_of w11 (by omega)
    refine lv_aload_n hx hb dC_dropped_14 rfl (lv_at hl 0 rfl) ?_
    refine va_get (D := D) (cl := rcl) (ci := 5) (v := .ref f) (C := NC) (T := TC) (N := 6) hx hb hts (fun w h => gw_t w (uwC w h)) hown hK hP 0 rfl rfl 3 (by decide) (hts _ (gw_t _ hw223)) (fun _ h9 => h9) rfl dC_dropped_15 ?_
    refine lv_iload_n hx hb dC_dropped_18 rfl (lv_at hl 1 rfl) ?_
    have hPc := hP.sub (ws' := [(f, .inr (4, [.ref u, .int (nI bn), .long ld, .int vh, .int (nI lc), .int (nI cc), .ref f0, .ref f1, .ref f2, .ref f3, .ref f4, .ref f5, .ref f6, .ref f7])), (f0, .inl (kI, 63, .inl (bsI cs))), (f1, .inl (kJ, 64, .inr (.inl kg))), (f2, .inl (kI, 64, .inl (bsI re))), (f3, .inl (kI, 64, .inl (bsI ro))), (f4, .inl (kZ, 64, .inl ba)), (f5, .inl (kJ, 64, .inr (.inl co))), (f6, .inl (kI, 384, .inl (bsI od))), (f7, .inl (kI, 6, .inl (bsI rw)))]) [1, 2, 3, 4, 5, 6, 7, 8, 9] rfl
    refine vp_callSi (W.runV (C := NR) (As := [.int (nI i9)]) (rest := []) ⟨hx, hb, hml, hown, hts⟩ (cR_leadsNowhere l D kI kJ kZ kG kH f u f0 f1 f2 f3 f4 f5 f6 f7 bn ld vh lc cc cs kg re ro ba co od rw i9 hbn hre hro (by omega)) ⟨cB 1 hts hw449 hw7 hw446 (by decide +kernel) ⟨Nat.le_of_ble_eq_true rfl, Nat.le_of_ble_eq_true rfl⟩ rfl rfl, hts _ (gw_t _ hw447), hts _ (gw_t _ hw448)⟩ ⟨fun a U g mk q => ⟨q.1, q.2.calling g mk a⟩, va_recv hK hPc (ci := 4) (q0 := 0) rfl rfl, fun U hU hW => ⟨rfl, wd.use hPc hK hN hU hW⟩⟩ rfl rfl hl.1 rfl (lv_room (Nat.le_of_ble_eq_true rfl)) dC_dropped_19 ⟨Nat.le_of_ble_eq_true rfl, Nat.le_of_ble_eq_true rfl⟩) (fun r19 hr19 => ?_)
    refine lv_if_eq (tgt := 29) hx hb dC_dropped_22 (by decide) (fun c22 => ?_) (fun c22 => ?_)
    · refine lv_iconst (v := 0) hx hb dC_dropped_29 (by decide) ?_
      exact W.zret (v := 0) (ty := .boolean) hx hb hr (by decide) (fun t ht9 hW9 => ⟨_, rfl, by rw [if_pos w11, nI_clamp (by omega), ← hr19]; exact c22.symm, ht9⟩) t_nil dC_dropped_30
    · refine lv_iconst (v := 1) hx hb dC_dropped_25 (by decide) ?_
      refine lv_goto (tgt := 30) hx hb dC_dropped_26 (by decide) ?_
      exact W.zret (v := 1) (ty := .boolean) hx hb hr (by decide) (fun t ht9 hW9 => ⟨_, rfl, by rw [if_pos w11, nI_clamp (by omega), ← hr19]; exact ((ln01 hr19).resolve_left c22).symm, ht9⟩) t_nil dC_dropped_30

set_option maxHeartbeats 4000000 in
set_option maxRecDepth 100000 in
theorem cC_labelsClosed (l : Launch) (D : va_G) (kI kJ kZ kG kH : ClassId) (h0 : Nat) (u : Nat) (x : Nat) (y : Nat) (f : Nat) (g : Nat) (wr : Int32) (f0 : Nat) (f1 : Nat) (f2 : Nat) (f3 : Nat) (f4 : Nat) (f5 : Nat) (f6 : Nat) (f7 : Nat) (bn : Nat) (ld : Int64) (vh : Int32) (lc : Nat) (cc : Nat) (cs : Nat → Nat) (kg : Nat → Int64) (re : Nat → Nat) (ro : Nat → Nat) (ba : Nat → Int32) (co : Nat → Int64) (od : Nat → Nat) (rw : Nat → Nat) (hcc : cc ≤ 63) (hcs : ∀ j, j < 63 → cs j < 64) (hro : ∀ j, j < 64 → ro j < 64) : Met l yC_labelsClosed wC_labelsClosed (rmL 2 0 0) (va_Pc [.ref h0] (fun U => wd D kI kJ kZ kG kH [(h0, .inr (5, [.ref u, .ref x, .ref y, .ref f, .ref g, .int wr])), (f, .inr (4, [.ref u, .int (nI bn), .long ld, .int vh, .int (nI lc), .int (nI cc), .ref f0, .ref f1, .ref f2, .ref f3, .ref f4, .ref f5, .ref f6, .ref f7])), (f0, .inl (kI, 63, .inl (bsI cs))), (f1, .inl (kJ, 64, .inr (.inl kg))), (f2, .inl (kI, 64, .inl (bsI re))), (f3, .inl (kI, 64, .inl (bsI ro))), (f4, .inl (kZ, 64, .inl ba)), (f5, .inl (kJ, 64, .inr (.inl co))), (f6, .inl (kI, 384, .inl (bsI od))), (f7, .inl (kI, 6, .inl (bsI rw)))] U)) (vp_Si (fun r : Int32 => (r = 1 ∧ ¬ wr = 0 ∧ suC cs ro cc) ∨ (r = 0 ∧ ¬ (¬ wr = 0 ∧ suC cs ro cc)))) 0 0 (fun _ => False) := by
  refine Met.ofW (cc := bC_labelsClosed) (maxL := 1) (ret := (some .boolean)) (by decide) rfl ?_
  intro p e s m args below meth c s₁ B hml hv
  obtain ⟨rfl, hP, hK, hN⟩ := hv
  have hx := B.exec
  have hb := B.bytes
  have hr := B.returns
  have hts := atoms_spec (ws := wC_labelsClosed) B.pre
  have hown : s.vm.findClass NC = some m.cls := findClass_of_methodNamed B.named
  have hlocks := B.notSynchronized
  have hl := lv_entry ([.ref h0]) (n := 1) (Nat.le_of_ble_eq_true rfl)
  rw [lg_entry_eq]
  generalize (lg_sl ([.ref h0]) ++ List.replicate (1 - (lg_sl ([.ref h0])).length) Slot.unset).toArray = ls at hl ⊢
  have hl : lv_has ls 1 [(0, .ref h0)] := hl
  refine lv_aload_n hx hb dC_labelsClosed_0 rfl (lv_at hl 0 rfl) ?_
  refine va_get (D := D) (cl := rcl) (ci := 5) (v := .int wr) (C := NC) (T := TC) (N := 6) hx hb hts (fun w h => gw_t w (uwC w h)) hown hK hP 0 rfl rfl 5 (by decide) (hts _ (gw_t _ hw225)) (fun _ h9 => h9) rfl dC_labelsClosed_1 ?_
  refine lv_if_eq (tgt := 21) hx hb dC_labelsClosed_4 (by decide) (fun c4 => ?_) (fun c4 => ?_)
  · refine lv_iconst (v := 0) hx hb dC_labelsClosed_21 (by decide) ?_
    exact W.zret (v := 0) (ty := .boolean) hx hb hr (by decide) (fun t ht9 hW9 => ⟨_, rfl, Or.inr ⟨rfl, fun z => z.1 c4⟩, ht9⟩) t_nil dC_labelsClosed_22
  · refine lv_aload_n hx hb dC_labelsClosed_7 rfl (lv_at hl 0 rfl) ?_
    refine va_get (D := D) (cl := rcl) (ci := 5) (v := .ref f) (C := NC) (T := TC) (N := 6) hx hb hts (fun w h => gw_t w (uwC w h)) hown hK hP 0 rfl rfl 3 (by decide) (hts _ (gw_t _ hw223)) (fun _ h9 => h9) rfl dC_labelsClosed_8 ?_
    have hPc := hP.sub (ws' := [(f, .inr (4, [.ref u, .int (nI bn), .long ld, .int vh, .int (nI lc), .int (nI cc), .ref f0, .ref f1, .ref f2, .ref f3, .ref f4, .ref f5, .ref f6, .ref f7])), (f0, .inl (kI, 63, .inl (bsI cs))), (f1, .inl (kJ, 64, .inr (.inl kg))), (f2, .inl (kI, 64, .inl (bsI re))), (f3, .inl (kI, 64, .inl (bsI ro))), (f4, .inl (kZ, 64, .inl ba)), (f5, .inl (kJ, 64, .inr (.inl co))), (f6, .inl (kI, 384, .inl (bsI od))), (f7, .inl (kI, 6, .inl (bsI rw)))]) [1, 2, 3, 4, 5, 6, 7, 8, 9] rfl
    refine vp_callSi (W.runV (C := NR) (As := []) (rest := []) ⟨hx, hb, hml, hown, hts⟩ (cR_areSubsetsColumns l D kI kJ kZ kG kH f u f0 f1 f2 f3 f4 f5 f6 f7 bn ld vh lc cc cs kg re ro ba co od rw hcc hcs hro) ⟨cB 0 hts hw501 hw7 hw498 (by decide +kernel) ⟨Nat.le_of_ble_eq_true rfl, Nat.le_of_ble_eq_true rfl⟩ rfl rfl, hts _ (gw_t _ hw499), hts _ (gw_t _ hw500)⟩ ⟨fun a U g mk q => ⟨q.1, q.2.calling g mk a⟩, va_recv hK hPc (ci := 4) (q0 := 0) rfl rfl, fun U hU hW => ⟨rfl, wd.use hPc hK hN hU hW⟩⟩ rfl rfl hl.1 rfl (lv_room (Nat.le_of_ble_eq_true rfl)) dC_labelsClosed_11 ⟨Nat.le_of_ble_eq_true rfl, Nat.le_of_ble_eq_true rfl⟩) (fun r11 hr11 => ?_)
    refine lv_if_eq (tgt := 21) hx hb dC_labelsClosed_14 (by decide) (fun c14 => ?_) (fun c14 => ?_)
    · refine lv_iconst (v := 0) hx hb dC_labelsClosed_21 (by decide) ?_
      exact W.zret (v := 0) (ty := .boolean) hx hb hr (by decide) (fun t ht9 hW9 => ⟨_, rfl, Or.inr ⟨rfl, fun z => (hr11.resolve_left (fun y => absurd (y.1.symm.trans c14) (by decide))).2 z.2⟩, ht9⟩) t_nil dC_labelsClosed_22
    · refine lv_iconst (v := 1) hx hb dC_labelsClosed_17 (by decide) ?_
      refine lv_goto (tgt := 22) hx hb dC_labelsClosed_18 (by decide) ?_
      exact W.zret (v := 1) (ty := .boolean) hx hb hr (by decide) (fun t ht9 hW9 => ⟨_, rfl, Or.inl ⟨rfl, c4, (hr11.resolve_right (fun z => c14 z.1)).2⟩, ht9⟩) t_nil dC_labelsClosed_22

set_option maxHeartbeats 4000000 in
set_option maxRecDepth 100000 in
theorem cW_costOfRound (l : Launch) (D : va_G) (kI kJ kZ kG kH : ClassId) (h0 : Nat) (t0 : Nat) (t1 : Nat) (t2 : Nat) (t3 : Nat) (t4 : Nat) (t5 : Nat) (tr : Nat → Nat) (ts : Nat → Nat) (bn : Nat) (ld : Int64) (sec : Int32) (vh : Int32) (kg : Nat → Int64) (bs : Nat → Int32) (S : Nat → Nat → Int32) (C : Nat → Nat → Int64) (tg : Nat → Int32) (ap : Nat → Int32) (oq : Nat) (od : Nat → Nat) (sx : Nat) (ln : Nat) (hod : ∀ j, j < 384 → od j < 6) (hsl : sx + ln ≤ 384) : Met l yW_costOfRound wW_costOfRound (rmL 1 0 0) (va_Pc [.ref h0, .ref oq, .int (nI sx), .int (nI ln)] (fun U => wd D kI kJ kZ kG kH (([(h0, .inr (0, [.int (nI bn), .long ld, .int sec, .int vh, .ref t0, .ref t1, .ref t2, .ref t3, .ref t4, .ref t5])), (t0, .inl (kJ, 6, .inr (.inl kg))), (t1, .inl (kI, 6, .inl bs)), (t2, .inl (kG, 7, .inr (.inr (.inr (.inr (fun i => some (tr i))))))), (t3, .inl (kH, 7, .inr (.inr (.inr (.inr (fun i => some (ts i))))))), (t4, .inl (kI, 6, .inl tg)), (t5, .inl (kI, 6, .inl ap)), (oq, .inl (kI, 384, .inl (bsI od)))] : va_W) ++ (gI kI 7 7 tr S ++ (gJ kJ 7 7 ts C ++ ([] : va_W)))) U)) (vp_Sl (fun r : Int64 => r = crE ld sec (crF S C kg bs od sx ln (ln + 1) 0 0 0 0 0))) 0 0 (fun _ => False) := by
  refine Met.ofW (cc := bW_costOfRound) (maxL := 12) (ret := (some .long)) (by decide) rfl ?_
  intro p e s m args below meth c s₁ B hml hv
  obtain ⟨rfl, hP, hK, hN⟩ := hv
  have hx := B.exec
  have hb := B.bytes
  have hr := B.returns
  have hts := atoms_spec (ws := wW_costOfRound) B.pre
  have hown : s.vm.findClass NW = some m.cls := findClass_of_methodNamed B.named
  have hlocks := B.notSynchronized
  have hl := lv_entry ([.ref h0, .ref oq, .int (nI sx), .int (nI ln)]) (n := 12) (Nat.le_of_ble_eq_true rfl)
  rw [lg_entry_eq]
  generalize (lg_sl ([.ref h0, .ref oq, .int (nI sx), .int (nI ln)]) ++ List.replicate (12 - (lg_sl ([.ref h0, .ref oq, .int (nI sx), .int (nI ln)])).length) Slot.unset).toArray = ls at hl ⊢
  have hl : lv_has ls 12 [(0, .ref h0), (1, .ref oq), (2, .int (nI sx)), (3, .int (nI ln))] := hl
  have LP15 : ∀ (dd : Nat) (pl : Nat) (sp : Int32) (lo : Int64) (co : Int64) (i : Nat) (ls : Array Slot), ln + 1 - i < dd → (pl ≤ 6) → (i ≤ 385) → (crF S C kg bs od sx ln (ln + 1) 0 0 0 0 0 = crF S C kg bs od sx ln (ln + 1 - i) i pl sp lo co) → lv_has ls 12 [(0, .ref h0), (1, .ref oq), (2, .int (nI sx)), (3, .int (nI ln)), (4, .int (nI pl)), (5, .int sp), (6, .long lo), (8, .long co), (10, .int (nI i))] → W p l e (headSpec wW_costOfRound (rmL 1 0 0)).room s m ([.ref h0, .ref oq, .int (nI sx), .int (nI ln)] : List Value).toArray below meth c s.heap [] 0 0 (MQ below (vp_Sl (fun r : Int64 => r = crE ld sec (crF S C kg bs od sx ln (ln + 1) 0 0 0 0 0))) ([.ref h0, .ref oq, .int (nI sx), .int (nI ln)] : List Value).toArray s 0 0 (fun _ => False)) (F0 m 15 ls []) := by
    intro dd
    induction dd with
    | zero =>
      intro pl sp lo co i ls hm
      exact absurd hm (Nat.not_lt_zero _)
    | succ dd ihLP15 =>
      intro pl sp lo co i ls hm hpl hi hf hl
      refine lv_iload hx hb dW_costOfRound_15 (lv_at hl 8 rfl) ?_
      refine lv_iload_n hx hb dW_costOfRound_17 rfl (lv_at hl 3 rfl) ?_
      refine lv_icmp_gt (tgt := 129) hx hb dW_costOfRound_18 (by decide) (fun c18 => ?_) (fun c18 => ?_)
      · have c18 : ln < i := (nI_ltI (a := ln) (b := i) (by omega) (by omega)).mp c18
        refine lv_lload hx hb dW_costOfRound_129 (lv_at hl 6 rfl) ?_
        refine lv_aload_n hx hb dW_costOfRound_131 rfl (lv_at hl 0 rfl) ?_
        refine va_get (D := D) (cl := rcl) (ci := 0) (v := .long ld) (C := NW) (T := TW) (N := 10) hx hb hts (fun w h => gw_t w (uwW w h)) hown hK hP 0 rfl rfl 1 (by decide) (hts _ (gw_t _ hw42)) (fun _ h9 => h9) rfl dW_costOfRound_132 ?_
        refine W.lcmp hx hb dW_costOfRound_135 ?_
        refine lv_if_gt (tgt := 148) hx hb dW_costOfRound_136 (by decide) (fun c136 => ?_) (fun c136 => ?_)
        · have c136 := (lg_cmp_gt lo ld).mp c136
          refine lv_ldc2 (v := -1) (own := NW) hx hb hown (hts _ (gw_t _ hw493)) dW_costOfRound_148 ?_
          refine lv_goto (tgt := 156) hx hb dW_costOfRound_151 (by decide) ?_
          exact W.lret (v := (-1)) hx hb hr (fun t ht9 hW9 => ⟨_, rfl, by rw [hf, show ln + 1 - i = 0 by omega]; exact (if_pos (Or.inl c136)).symm, ht9⟩) t_nil dW_costOfRound_156
        · have c136 := mt (lg_cmp_gt lo ld).mpr c136
          refine lv_iload hx hb dW_costOfRound_139 (lv_at hl 5 rfl) ?_
          refine lv_aload_n hx hb dW_costOfRound_141 rfl (lv_at hl 0 rfl) ?_
          refine va_get (D := D) (cl := rcl) (ci := 0) (v := .int sec) (C := NW) (T := TW) (N := 10) hx hb hts (fun w h => gw_t w (uwW w h)) hown hK hP 0 rfl rfl 2 (by decide) (hts _ (gw_t _ hw45)) (fun _ h9 => h9) rfl dW_costOfRound_142 ?_
          refine lv_icmp_le (tgt := 154) hx hb dW_costOfRound_145 (by decide) (fun c145 => ?_) (fun c145 => ?_)
          · refine lv_lload hx hb dW_costOfRound_154 (lv_at hl 7 rfl) ?_
            exact W.lret (v := co) hx hb hr (fun t ht9 hW9 => ⟨_, rfl, by rw [hf, show ln + 1 - i = 0 by omega]; exact (if_neg (fun q => q.elim c136 (Int32.not_lt.mpr c145))).symm, ht9⟩) t_nil dW_costOfRound_156
          · refine lv_ldc2 (v := -1) (own := NW) hx hb hown (hts _ (gw_t _ hw493)) dW_costOfRound_148 ?_
            refine lv_goto (tgt := 156) hx hb dW_costOfRound_151 (by decide) ?_
            exact W.lret (v := (-1)) hx hb hr (fun t ht9 hW9 => ⟨_, rfl, by rw [hf, show ln + 1 - i = 0 by omega]; exact (if_pos (Or.inr (Int32.not_le.mp c145))).symm, ht9⟩) t_nil dW_costOfRound_156
      · have c18 : ¬ ln < i := mt (nI_ltI (a := ln) (b := i) (by omega) (by omega)).mpr c18
        have JN39 : ∀ (nx : Nat) (ls : Array Slot), (nx = nxF od sx ln i) → (nx ≤ 6) → lv_has ls 12 [(0, .ref h0), (1, .ref oq), (2, .int (nI sx)), (3, .int (nI ln)), (4, .int (nI pl)), (5, .int sp), (6, .long lo), (8, .long co), (10, .int (nI i))] → W p l e (headSpec wW_costOfRound (rmL 1 0 0)).room s m ([.ref h0, .ref oq, .int (nI sx), .int (nI ln)] : List Value).toArray below meth c s.heap [] 0 0 (MQ below (vp_Sl (fun r : Int64 => r = crE ld sec (crF S C kg bs od sx ln (ln + 1) 0 0 0 0 0))) ([.ref h0, .ref oq, .int (nI sx), .int (nI ln)] : List Value).toArray s 0 0 (fun _ => False)) (F0 m 39 ls [.int (nI nx)]) := by
          intro nx ls hnx hn6 hl
          refine lv_istore (lv' := [(11, .int (nI nx)), (0, .ref h0), (1, .ref oq), (2, .int (nI sx)), (3, .int (nI ln)), (4, .int (nI pl)), (5, .int sp), (6, .long lo), (8, .long co), (10, .int (nI i))]) hx hb dW_costOfRound_39 hl (by decide) rfl (fun ls hl => ?_)
          refine lv_aload_n hx hb dW_costOfRound_41 rfl (lv_at hl 1 rfl) ?_
          refine lv_iload hx hb dW_costOfRound_42 (lv_at hl 5 rfl) ?_
          refine lv_iload hx hb dW_costOfRound_44 (lv_at hl 0 rfl) ?_
          have hPc := va_P.part (X := [(h0, .inr (0, [.int (nI bn), .long ld, .int sec, .int vh, .ref t0, .ref t1, .ref t2, .ref t3, .ref t4, .ref t5])), (t0, .inl (kJ, 6, .inr (.inl kg))), (t1, .inl (kI, 6, .inl bs)), (t2, .inl (kG, 7, .inr (.inr (.inr (.inr (fun i => some (tr i))))))), (t3, .inl (kH, 7, .inr (.inr (.inr (.inr (fun i => some (ts i))))))), (t4, .inl (kI, 6, .inl tg)), (t5, .inl (kI, 6, .inl ap)), (oq, .inl (kI, 384, .inl (bsI od)))]) (cx := [(h0, .inr (0, [.int (nI bn), .long ld, .int sec, .int vh, .ref t0, .ref t1, .ref t2, .ref t3, .ref t4, .ref t5])), (t0, .inl (kJ, 6, .inr (.inl kg))), (t1, .inl (kI, 6, .inl bs)), (t2, .inl (kG, 7, .inr (.inr (.inr (.inr (fun i => some (tr i))))))), (t3, .inl (kH, 7, .inr (.inr (.inr (.inr (fun i => some (ts i))))))), (t4, .inl (kI, 6, .inl tg)), (t5, .inl (kI, 6, .inl ap))]) (pl := (gI kI 7 7 tr S ++ (gJ kJ 7 7 ts C ++ ([] : va_W)))) hP [0, 1, 2, 3, 4, 5, 6] rfl
          refine vp_callSi (W.runV (C := NW) (As := [.int (nI pl), .int (nI nx)]) (rest := []) ⟨hx, hb, hml, hown, hts⟩ (cW_hasWay l D kI kJ kZ kG kH h0 t0 t1 t2 t3 t4 t5 tr ts bn ld sec vh kg bs S C tg ap pl nx (by omega) (by omega)) ⟨cB 2 hts hw492 hw2 hw489 (by decide +kernel) ⟨Nat.le_of_ble_eq_true rfl, Nat.le_of_ble_eq_true rfl⟩ rfl rfl, hts _ (gw_t _ hw490), hts _ (gw_t _ hw491)⟩ ⟨fun a U g mk q => ⟨q.1, q.2.calling g mk a⟩, va_recv hK hPc (ci := 0) (q0 := 0) rfl rfl, fun U hU hW => ⟨rfl, wd.use hPc hK hN hU hW⟩⟩ rfl rfl hl.1 rfl (lv_room (Nat.le_of_ble_eq_true rfl)) dW_costOfRound_46 ⟨Nat.le_of_ble_eq_true rfl, Nat.le_of_ble_eq_true rfl⟩) (fun r46 hr46 => ?_)
          refine lv_if_ne (tgt := 56) hx hb dW_costOfRound_49 (by decide) (fun c49 => ?_) (fun c49 => ?_)
          · have w49 := wz_f hr46 c49
            refine lv_iload hx hb dW_costOfRound_56 (lv_at hl 6 rfl) ?_
            refine lv_aload_n hx hb dW_costOfRound_58 rfl (lv_at hl 1 rfl) ?_
            refine va_get (D := D) (cl := rcl) (ci := 0) (v := .ref t2) (C := NW) (T := TW) (N := 10) hx hb hts (fun w h => gw_t w (uwW w h)) hown hK hP 0 rfl rfl 6 (by decide) (hts _ (gw_t _ hw52)) (fun _ h9 => h9) rfl dW_costOfRound_59 ?_
            refine lv_iload hx hb dW_costOfRound_62 (lv_at hl 5 rfl) ?_
            refine ra_a (k := pl) (q := tr pl) hx hb hK hP 3 3 rfl rfl (by omega) (by omega) (rfl) dW_costOfRound_64 ?_
            refine lv_iload hx hb dW_costOfRound_65 (lv_at hl 0 rfl) ?_
            refine ra_i (k := nx) hx hb hK hP (8 + pl) 0 (gr_get (X := ([(h0, .inr (0, [.int (nI bn), .long ld, .int sec, .int vh, .ref t0, .ref t1, .ref t2, .ref t3, .ref t4, .ref t5])), (t0, .inl (kJ, 6, .inr (.inl kg))), (t1, .inl (kI, 6, .inl bs)), (t2, .inl (kG, 7, .inr (.inr (.inr (.inr (fun i => some (tr i))))))), (t3, .inl (kH, 7, .inr (.inr (.inr (.inr (fun i => some (ts i))))))), (t4, .inl (kI, 6, .inl tg)), (t5, .inl (kI, 6, .inl ap)), (oq, .inl (kI, 384, .inl (bsI od)))] : va_W)) (by omega)) rfl (by omega) (by omega) dW_costOfRound_67 ?_
            refine lv_iadd hx hb dW_costOfRound_68 ?_
            refine lv_istore (lv' := [(5, .int (sp + (S pl nx))), (11, .int (nI nx)), (0, .ref h0), (1, .ref oq), (2, .int (nI sx)), (3, .int (nI ln)), (4, .int (nI pl)), (6, .long lo), (8, .long co), (10, .int (nI i))]) hx hb dW_costOfRound_69 hl (by decide) rfl (fun ls hl => ?_)
            refine lv_lload hx hb dW_costOfRound_71 (lv_at hl 8 rfl) ?_
            refine lv_aload_n hx hb dW_costOfRound_73 rfl (lv_at hl 2 rfl) ?_
            refine va_get (D := D) (cl := rcl) (ci := 0) (v := .ref t3) (C := NW) (T := TW) (N := 10) hx hb hts (fun w h => gw_t w (uwW w h)) hown hK hP 0 rfl rfl 7 (by decide) (hts _ (gw_t _ hw55)) (fun _ h9 => h9) rfl dW_costOfRound_74 ?_
            refine lv_iload hx hb dW_costOfRound_77 (lv_at hl 6 rfl) ?_
            refine ra_a (k := pl) (q := ts pl) hx hb hK hP 4 4 rfl rfl (by omega) (by omega) (rfl) dW_costOfRound_79 ?_
            refine lv_iload hx hb dW_costOfRound_80 (lv_at hl 1 rfl) ?_
            refine ra_l (k := nx) hx hb hK hP (8 + (7 + pl)) 1 (gr_get2 (X := ([(h0, .inr (0, [.int (nI bn), .long ld, .int sec, .int vh, .ref t0, .ref t1, .ref t2, .ref t3, .ref t4, .ref t5])), (t0, .inl (kJ, 6, .inr (.inl kg))), (t1, .inl (kI, 6, .inl bs)), (t2, .inl (kG, 7, .inr (.inr (.inr (.inr (fun i => some (tr i))))))), (t3, .inl (kH, 7, .inr (.inr (.inr (.inr (fun i => some (ts i))))))), (t4, .inl (kI, 6, .inl tg)), (t5, .inl (kI, 6, .inl ap)), (oq, .inl (kI, 384, .inl (bsI od)))] : va_W)) (by omega)) rfl (by omega) (by omega) dW_costOfRound_82 ?_
            refine lv_ladd hx hb dW_costOfRound_83 ?_
            refine lv_lstore (lv' := [(8, .long (co + (C pl nx))), (5, .int (sp + (S pl nx))), (11, .int (nI nx)), (0, .ref h0), (1, .ref oq), (2, .int (nI sx)), (3, .int (nI ln)), (4, .int (nI pl)), (6, .long lo), (10, .int (nI i))]) hx hb dW_costOfRound_84 hl (by decide) rfl (fun ls hl => ?_)
            refine lv_iload hx hb dW_costOfRound_86 (lv_at hl 2 rfl) ?_
            refine lv_if_eq (tgt := 119) hx hb dW_costOfRound_88 (by decide) (fun c88 => ?_) (fun c88 => ?_)
            · have c88 : nx = 0 := (nI_eq (a := nx) (b := 0) (by omega) (by omega)).mp c88
              refine lv_iload hx hb dW_costOfRound_119 (lv_at hl 2 rfl) ?_
              refine lv_istore (lv' := [(4, .int (nI nx)), (8, .long (co + (C pl nx))), (5, .int (sp + (S pl nx))), (11, .int (nI nx)), (0, .ref h0), (1, .ref oq), (2, .int (nI sx)), (3, .int (nI ln)), (6, .long lo), (10, .int (nI i))]) hx hb dW_costOfRound_121 hl (by decide) rfl (fun ls hl => ?_)
              refine lv_iinc (v := nI (i + 1)) (lv' := [(10, .int (nI (i + 1))), (4, .int (nI nx)), (8, .long (co + (C pl nx))), (5, .int (sp + (S pl nx))), (11, .int (nI nx)), (0, .ref h0), (1, .ref oq), (2, .int (nI sx)), (3, .int (nI ln)), (6, .long lo)]) hx hb dW_costOfRound_123 hl (k := 9) rfl (nI_add i 1) (by decide) rfl (fun ls hl => ?_)
              refine lv_goto (tgt := 15) hx hb dW_costOfRound_126 (by decide) ?_
              exact ihLP15 nx (sp + (S pl nx)) lo (co + (C pl nx)) (i + 1) ls (by omega) (by omega) (by omega) (by rw [hf, show ln + 1 - i = (ln + 1 - (i + 1)) + 1 by omega]; simp only [crF]; rw [← hnx, if_neg w49, if_pos c88]) (lv_sub hl [5, 6, 7, 8, 1, 3, 9, 2, 0] rfl)
            · have c88 : ¬ nx = 0 := mt (nI_eq (a := nx) (b := 0) (by omega) (by omega)).mpr c88
              refine lv_iload hx hb dW_costOfRound_91 (lv_at hl 1 rfl) ?_
              refine lv_aload_n hx hb dW_costOfRound_93 rfl (lv_at hl 3 rfl) ?_
              refine va_get (D := D) (cl := rcl) (ci := 0) (v := .ref t1) (C := NW) (T := TW) (N := 10) hx hb hts (fun w h => gw_t w (uwW w h)) hown hK hP 0 rfl rfl 5 (by decide) (hts _ (gw_t _ hw50)) (fun _ h9 => h9) rfl dW_costOfRound_94 ?_
              refine lv_iload hx hb dW_costOfRound_97 (lv_at hl 2 rfl) ?_
              refine lv_iconst (v := 1) hx hb dW_costOfRound_99 (by decide) ?_
              refine lv_isub hx hb dW_costOfRound_100 ?_
              refine lc_i (y := nI (nx - 1)) (pk_sub (a := nx) (b := 1) (by omega)) ?_
              refine ra_i (k := nx - 1) hx hb hK hP 2 0 rfl rfl (by omega) (by omega) dW_costOfRound_101 ?_
              refine lv_iadd hx hb dW_costOfRound_102 ?_
              refine lv_istore (lv' := [(5, .int ((sp + (S pl nx)) + (bs (nx - 1)))), (8, .long (co + (C pl nx))), (11, .int (nI nx)), (0, .ref h0), (1, .ref oq), (2, .int (nI sx)), (3, .int (nI ln)), (4, .int (nI pl)), (6, .long lo), (10, .int (nI i))]) hx hb dW_costOfRound_103 hl (by decide) rfl (fun ls hl => ?_)
              refine lv_lload hx hb dW_costOfRound_105 (lv_at hl 8 rfl) ?_
              refine lv_aload_n hx hb dW_costOfRound_107 rfl (lv_at hl 3 rfl) ?_
              refine va_get (D := D) (cl := rcl) (ci := 0) (v := .ref t0) (C := NW) (T := TW) (N := 10) hx hb hts (fun w h => gw_t w (uwW w h)) hown hK hP 0 rfl rfl 4 (by decide) (hts _ (gw_t _ hw48)) (fun _ h9 => h9) rfl dW_costOfRound_108 ?_
              refine lv_iload hx hb dW_costOfRound_111 (lv_at hl 2 rfl) ?_
              refine lv_iconst (v := 1) hx hb dW_costOfRound_113 (by decide) ?_
              refine lv_isub hx hb dW_costOfRound_114 ?_
              refine lc_i (y := nI (nx - 1)) (pk_sub (a := nx) (b := 1) (by omega)) ?_
              refine ra_l (k := nx - 1) hx hb hK hP 1 1 rfl rfl (by omega) (by omega) dW_costOfRound_115 ?_
              refine lv_ladd hx hb dW_costOfRound_116 ?_
              refine lv_lstore (lv' := [(6, .long (lo + (kg (nx - 1)))), (5, .int ((sp + (S pl nx)) + (bs (nx - 1)))), (8, .long (co + (C pl nx))), (11, .int (nI nx)), (0, .ref h0), (1, .ref oq), (2, .int (nI sx)), (3, .int (nI ln)), (4, .int (nI pl)), (10, .int (nI i))]) hx hb dW_costOfRound_117 hl (by decide) rfl (fun ls hl => ?_)
              refine lv_iload hx hb dW_costOfRound_119 (lv_at hl 3 rfl) ?_
              refine lv_istore (lv' := [(4, .int (nI nx)), (6, .long (lo + (kg (nx - 1)))), (5, .int ((sp + (S pl nx)) + (bs (nx - 1)))), (8, .long (co + (C pl nx))), (11, .int (nI nx)), (0, .ref h0), (1, .ref oq), (2, .int (nI sx)), (3, .int (nI ln)), (10, .int (nI i))]) hx hb dW_costOfRound_121 hl (by decide) rfl (fun ls hl => ?_)
              refine lv_iinc (v := nI (i + 1)) (lv' := [(10, .int (nI (i + 1))), (4, .int (nI nx)), (6, .long (lo + (kg (nx - 1)))), (5, .int ((sp + (S pl nx)) + (bs (nx - 1)))), (8, .long (co + (C pl nx))), (11, .int (nI nx)), (0, .ref h0), (1, .ref oq), (2, .int (nI sx)), (3, .int (nI ln))]) hx hb dW_costOfRound_123 hl (k := 9) rfl (nI_add i 1) (by decide) rfl (fun ls hl => ?_)
              refine lv_goto (tgt := 15) hx hb dW_costOfRound_126 (by decide) ?_
              exact ihLP15 nx ((sp + (S pl nx)) + (bs (nx - 1))) (lo + (kg (nx - 1))) (co + (C pl nx)) (i + 1) ls (by omega) (by omega) (by omega) (by rw [hf, show ln + 1 - i = (ln + 1 - (i + 1)) + 1 by omega]; simp only [crF]; rw [← hnx, if_neg w49, if_neg c88]) (lv_sub hl [6, 7, 8, 9, 1, 3, 2, 4, 0] rfl)
          · have w49 := wz_t hr46 c49
            refine lv_ldc2 (v := -1) (own := NW) hx hb hown (hts _ (gw_t _ hw493)) dW_costOfRound_52 ?_
            exact W.lret (v := (-1)) hx hb hr (fun t ht9 hW9 => ⟨_, rfl, by rw [hf, show ln + 1 - i = (ln + 1 - (i + 1)) + 1 by omega]; simp only [crF]; rw [← hnx, if_pos w49]; rfl, ht9⟩) t_nil dW_costOfRound_55
        refine lv_iload hx hb dW_costOfRound_21 (lv_at hl 8 rfl) ?_
        refine lv_iload_n hx hb dW_costOfRound_23 rfl (lv_at hl 3 rfl) ?_
        refine lv_icmp_ge (tgt := 38) hx hb dW_costOfRound_24 (by decide) (fun c24 => ?_) (fun c24 => ?_)
        · have c24 : ln ≤ i := (nI_leI (a := ln) (b := i) (by omega) (by omega)).mp c24
          refine lv_iconst (v := 0) hx hb dW_costOfRound_38 (by decide) ?_
          exact JN39 0 ls (by unfold nxF; rw [if_neg (by omega)]) (by omega) (lv_sub hl [0, 1, 2, 3, 4, 5, 6, 7, 8] rfl)
        · have c24 : ¬ ln ≤ i := mt (nI_leI (a := ln) (b := i) (by omega) (by omega)).mpr c24
          refine lv_iconst (v := 1) hx hb dW_costOfRound_27 (by decide) ?_
          refine lv_aload_n hx hb dW_costOfRound_28 rfl (lv_at hl 1 rfl) ?_
          refine lv_iload_n hx hb dW_costOfRound_29 rfl (lv_at hl 2 rfl) ?_
          refine lv_iload hx hb dW_costOfRound_30 (lv_at hl 8 rfl) ?_
          refine lv_iadd hx hb dW_costOfRound_32 ?_
          refine lc_i (y := nI (sx + i)) (nI_add sx i) ?_
          refine ra_i (k := sx + i) hx hb hK hP 7 0 rfl rfl (by omega) (by omega) dW_costOfRound_33 ?_
          refine lc_i (y := nI (od (sx + i))) (rfl) ?_
          refine lv_iadd hx hb dW_costOfRound_34 ?_
          refine lc_i (y := nI (1 + (od (sx + i)))) (nI_add 1 (od (sx + i))) ?_
          refine lv_goto (tgt := 39) hx hb dW_costOfRound_35 (by decide) ?_
          exact JN39 (1 + (od (sx + i))) ls (by unfold nxF; rw [if_pos (by omega)]) (by have := hod (sx + i) (by omega); omega) (lv_sub hl [0, 1, 2, 3, 4, 5, 6, 7, 8] rfl)
  refine lv_iconst (v := 0) hx hb dW_costOfRound_0 (by decide) ?_
  refine lv_istore (lv' := [(4, .int 0), (0, .ref h0), (1, .ref oq), (2, .int (nI sx)), (3, .int (nI ln))]) hx hb dW_costOfRound_1 hl (by decide) rfl (fun ls hl => ?_)
  refine lv_iconst (v := 0) hx hb dW_costOfRound_3 (by decide) ?_
  refine lv_istore (lv' := [(5, .int 0), (4, .int 0), (0, .ref h0), (1, .ref oq), (2, .int (nI sx)), (3, .int (nI ln))]) hx hb dW_costOfRound_4 hl (by decide) rfl (fun ls hl => ?_)
  refine lv_lconst (v := 0) hx hb dW_costOfRound_6 (by decide) ?_
  refine lv_lstore (lv' := [(6, .long 0), (5, .int 0), (4, .int 0), (0, .ref h0), (1, .ref oq), (2, .int (nI sx)), (3, .int (nI ln))]) hx hb dW_costOfRound_7 hl (by decide) rfl (fun ls hl => ?_)
  refine lv_lconst (v := 0) hx hb dW_costOfRound_9 (by decide) ?_
  refine lv_lstore (lv' := [(8, .long 0), (6, .long 0), (5, .int 0), (4, .int 0), (0, .ref h0), (1, .ref oq), (2, .int (nI sx)), (3, .int (nI ln))]) hx hb dW_costOfRound_10 hl (by decide) rfl (fun ls hl => ?_)
  refine lv_iconst (v := 0) hx hb dW_costOfRound_12 (by decide) ?_
  refine lv_istore (lv' := [(10, .int 0), (8, .long 0), (6, .long 0), (5, .int 0), (4, .int 0), (0, .ref h0), (1, .ref oq), (2, .int (nI sx)), (3, .int (nI ln))]) hx hb dW_costOfRound_13 hl (by decide) rfl (fun ls hl => ?_)
  exact LP15 _ 0 0 0 0 0 ls (Nat.lt_succ_self _) (by omega) (by omega) rfl (lv_sub hl [5, 6, 7, 8, 4, 3, 2, 1, 0] rfl)

set_option maxHeartbeats 4000000 in
set_option maxRecDepth 100000 in
theorem cC_check (l : Launch) (D : va_G) (kI kJ kZ kG kH : ClassId) (h0 : Nat) (u : Nat) (x : Nat) (y : Nat) (f : Nat) (g : Nat) (wr : Int32) (f0 : Nat) (f1 : Nat) (f2 : Nat) (f3 : Nat) (f4 : Nat) (f5 : Nat) (f6 : Nat) (f7 : Nat) (u0 : Nat) (u1 : Nat) (u2 : Nat) (u3 : Nat) (u4 : Nat) (u5 : Nat) (ur : Nat → Nat) (us : Nat → Nat) (tb : Nat) (tl : Int64) (tsec : Int32) (tv : Int32) (tk : Nat → Int64) (tbs : Nat → Int32) (S : Nat → Nat → Int32) (C : Nat → Nat → Int64) (tg : Nat → Int32) (ap : Nat → Int32) (bn : Nat) (ld : Int64) (vh : Int32) (lc : Nat) (cc : Nat) (cs : Nat → Nat) (kg : Nat → Int64) (re : Nat → Nat) (ro : Nat → Nat) (ba : Nat → Int32) (co : Nat → Int64) (od : Nat → Nat) (rw : Nat → Nat) (hcc : cc ≤ 63) (hcs : ∀ j, j < 63 → cs j < 64) (hod : ∀ j, j < 384 → od j < 6) : Met l yC_check wC_check (rmL 2 0 0) (va_Pc [.ref h0] (fun U => wd D kI kJ kZ kG kH (([(h0, .inr (5, [.ref u, .ref x, .ref y, .ref f, .ref g, .int wr])), (u, .inr (0, [.int (nI tb), .long tl, .int tsec, .int tv, .ref u0, .ref u1, .ref u2, .ref u3, .ref u4, .ref u5])), (u0, .inl (kJ, 6, .inr (.inl tk))), (u1, .inl (kI, 6, .inl tbs)), (u2, .inl (kG, 7, .inr (.inr (.inr (.inr (fun i => some (ur i))))))), (u3, .inl (kH, 7, .inr (.inr (.inr (.inr (fun i => some (us i))))))), (u4, .inl (kI, 6, .inl tg)), (u5, .inl (kI, 6, .inl ap)), (f, .inr (4, [.ref u, .int (nI bn), .long ld, .int vh, .int (nI lc), .int (nI cc), .ref f0, .ref f1, .ref f2, .ref f3, .ref f4, .ref f5, .ref f6, .ref f7])), (f0, .inl (kI, 63, .inl (bsI cs))), (f1, .inl (kJ, 64, .inr (.inl kg))), (f2, .inl (kI, 64, .inl (bsI re))), (f3, .inl (kI, 64, .inl (bsI ro))), (f4, .inl (kZ, 64, .inl ba)), (f5, .inl (kJ, 64, .inr (.inl co))), (f6, .inl (kI, 384, .inl (bsI od))), (f7, .inl (kI, 6, .inl (bsI rw)))] : va_W) ++ (gI kI 7 7 ur S ++ (gJ kJ 7 7 us C ++ ([] : va_W)))) U)) (vp_Si (fun r : Int32 => r = nI (ckF (fun k => crE tl tsec (crF S C tk tbs od (cs k * 6) (pcn (cs k)) (pcn (cs k) + 1) 0 0 0 0 0)) (fun k => co (cs k)) cc 0))) 0 0 (fun _ => False) := by
  refine Met.ofW (cc := bC_check) (maxL := 4) (ret := (some .int)) (by decide) rfl ?_
  intro p e s m args below meth c s₁ B hml hv
  obtain ⟨rfl, hP, hK, hN⟩ := hv
  have hx := B.exec
  have hb := B.bytes
  have hr := B.returns
  have hts := atoms_spec (ws := wC_check) B.pre
  have hown : s.vm.findClass NC = some m.cls := findClass_of_methodNamed B.named
  have hlocks := B.notSynchronized
  have hl := lv_entry ([.ref h0]) (n := 4) (Nat.le_of_ble_eq_true rfl)
  rw [lg_entry_eq]
  generalize (lg_sl ([.ref h0]) ++ List.replicate (4 - (lg_sl ([.ref h0])).length) Slot.unset).toArray = ls at hl ⊢
  have hl : lv_has ls 4 [(0, .ref h0)] := hl
  have LP2 : ∀ (dd : Nat) (k : Nat) (ls : Array Slot), cc - k < dd → (k ≤ 63) → (ckF (fun k => crE tl tsec (crF S C tk tbs od (cs k * 6) (pcn (cs k)) (pcn (cs k) + 1) 0 0 0 0 0)) (fun k => co (cs k)) cc 0 = ckF (fun k => crE tl tsec (crF S C tk tbs od (cs k * 6) (pcn (cs k)) (pcn (cs k) + 1) 0 0 0 0 0)) (fun k => co (cs k)) (cc - k) k) → lv_has ls 4 [(0, .ref h0), (1, .int (nI k))] → W p l e (headSpec wC_check (rmL 2 0 0)).room s m ([.ref h0] : List Value).toArray below meth c s.heap [] 0 0 (MQ below (vp_Si (fun r : Int32 => r = nI (ckF (fun k => crE tl tsec (crF S C tk tbs od (cs k * 6) (pcn (cs k)) (pcn (cs k) + 1) 0 0 0 0 0)) (fun k => co (cs k)) cc 0))) ([.ref h0] : List Value).toArray s 0 0 (fun _ => False)) (F0 m 2 ls []) := by
    intro dd
    induction dd with
    | zero =>
      intro k ls hm
      exact absurd hm (Nat.not_lt_zero _)
    | succ dd ihLP2 =>
      intro k ls hm hk hf hl
      refine lv_iload_n hx hb dC_check_2 rfl (lv_at hl 1 rfl) ?_
      refine lv_aload_n hx hb dC_check_3 rfl (lv_at hl 0 rfl) ?_
      refine va_get (D := D) (cl := rcl) (ci := 5) (v := .ref f) (C := NC) (T := TC) (N := 6) hx hb hts (fun w h => gw_t w (uwC w h)) hown hK hP 0 rfl rfl 3 (by decide) (hts _ (gw_t _ hw223)) (fun _ h9 => h9) rfl dC_check_4 ?_
      refine va_get (D := D) (cl := rcl) (ci := 4) (v := .int (nI cc)) (C := NR) (T := TR) (N := 14) hx hb hts (fun w h => gw_t w (uwR w h)) hown hK hP 8 rfl rfl 5 (by decide) (hts _ (gw_t _ hw175)) (fun _ h9 => h9) rfl dC_check_7 ?_
      refine lv_icmp_ge (tgt := 70) hx hb dC_check_10 (by decide) (fun c10 => ?_) (fun c10 => ?_)
      · have c10 : cc ≤ k := (nI_leI (a := cc) (b := k) (by omega) (by omega)).mp c10
        refine lv_iconst (v := 0) hx hb dC_check_70 (by decide) ?_
        exact W.iret (v := 0) hx hb hr (fun t ht9 hW9 => ⟨_, rfl, by rw [hf, show cc - k = 0 by omega]; rfl, ht9⟩) t_nil dC_check_71
      · have c10 : ¬ cc ≤ k := mt (nI_leI (a := cc) (b := k) (by omega) (by omega)).mpr c10
        refine lv_aload_n hx hb dC_check_13 rfl (lv_at hl 0 rfl) ?_
        refine va_get (D := D) (cl := rcl) (ci := 5) (v := .ref f) (C := NC) (T := TC) (N := 6) hx hb hts (fun w h => gw_t w (uwC w h)) hown hK hP 0 rfl rfl 3 (by decide) (hts _ (gw_t _ hw223)) (fun _ h9 => h9) rfl dC_check_14 ?_
        refine va_get (D := D) (cl := rcl) (ci := 4) (v := .ref f0) (C := NR) (T := TR) (N := 14) hx hb hts (fun w h => gw_t w (uwR w h)) hown hK hP 8 rfl rfl 6 (by decide) (hts _ (gw_t _ hw178)) (fun _ h9 => h9) rfl dC_check_17 ?_
        refine lv_iload_n hx hb dC_check_20 rfl (lv_at hl 1 rfl) ?_
        refine ra_i (k := k) hx hb hK hP 9 0 rfl rfl (by omega) (by omega) dC_check_21 ?_
        refine lc_i (y := nI (cs k)) (rfl) ?_
        have hck := hcs k (by omega)
        have hpl := pcn_le (cs k)
        refine lv_istore_n (lv' := [(2, .int (nI (cs k))), (0, .ref h0), (1, .int (nI k))]) hx hb dC_check_22 rfl hl (by decide) rfl (fun ls hl => ?_)
        refine lv_iload_n hx hb dC_check_23 rfl (lv_at hl 0 rfl) ?_
        refine vp_callSi (W.runS (As := [.int (nI (cs k))]) (rest := []) ⟨hx, hb, hml, hown, hts⟩ (cJI_bitCount l (cs k) hck) ⟨cB 1 hts hw300 hw9 hw484 (by decide +kernel) ⟨Nat.le_of_ble_eq_true rfl, Nat.le_of_ble_eq_true rfl⟩ rfl rfl, hts _ (gw_t _ hw299)⟩ ⟨fun a U g mk q => ⟨q.1, trivial⟩, fun U hU hW => ⟨rfl, trivial⟩⟩ rfl rfl hl.1 rfl (lv_room (Nat.le_of_ble_eq_true rfl)) dC_check_24 ⟨Nat.le_of_ble_eq_true rfl, Nat.le_of_ble_eq_true rfl⟩) (fun r24 hr24 => ?_)
        subst hr24
        refine lv_istore_n (lv' := [(3, .int (nI (pcn (cs k)))), (2, .int (nI (cs k))), (0, .ref h0), (1, .int (nI k))]) hx hb dC_check_27 rfl hl (by decide) rfl (fun ls hl => ?_)
        refine lv_aload_n hx hb dC_check_28 rfl (lv_at hl 2 rfl) ?_
        refine va_get (D := D) (cl := rcl) (ci := 5) (v := .ref u) (C := NC) (T := TC) (N := 6) hx hb hts (fun w h => gw_t w (uwC w h)) hown hK hP 0 rfl rfl 0 (by decide) (hts _ (gw_t _ hw220)) (fun _ h9 => h9) rfl dC_check_29 ?_
        refine lv_aload_n hx hb dC_check_32 rfl (lv_at hl 2 rfl) ?_
        refine va_get (D := D) (cl := rcl) (ci := 5) (v := .ref f) (C := NC) (T := TC) (N := 6) hx hb hts (fun w h => gw_t w (uwC w h)) hown hK hP 0 rfl rfl 3 (by decide) (hts _ (gw_t _ hw223)) (fun _ h9 => h9) rfl dC_check_33 ?_
        refine va_get (D := D) (cl := rcl) (ci := 4) (v := .ref f6) (C := NR) (T := TR) (N := 14) hx hb hts (fun w h => gw_t w (uwR w h)) hown hK hP 8 rfl rfl 12 (by decide) (hts _ (gw_t _ hw189)) (fun _ h9 => h9) rfl dC_check_36 ?_
        refine lv_iload_n hx hb dC_check_39 rfl (lv_at hl 1 rfl) ?_
        refine lv_bipush (v := 6) hx hb dC_check_40 (by decide) ?_
        refine lv_imul hx hb dC_check_42 ?_
        refine lc_i (y := nI (cs k * 6)) (pk_mul (cs k) 6) ?_
        refine lv_iload_n hx hb dC_check_43 rfl (lv_at hl 0 rfl) ?_
        have hPc := va_P.part (X := [(h0, .inr (5, [.ref u, .ref x, .ref y, .ref f, .ref g, .int wr])), (u, .inr (0, [.int (nI tb), .long tl, .int tsec, .int tv, .ref u0, .ref u1, .ref u2, .ref u3, .ref u4, .ref u5])), (u0, .inl (kJ, 6, .inr (.inl tk))), (u1, .inl (kI, 6, .inl tbs)), (u2, .inl (kG, 7, .inr (.inr (.inr (.inr (fun i => some (ur i))))))), (u3, .inl (kH, 7, .inr (.inr (.inr (.inr (fun i => some (us i))))))), (u4, .inl (kI, 6, .inl tg)), (u5, .inl (kI, 6, .inl ap)), (f, .inr (4, [.ref u, .int (nI bn), .long ld, .int vh, .int (nI lc), .int (nI cc), .ref f0, .ref f1, .ref f2, .ref f3, .ref f4, .ref f5, .ref f6, .ref f7])), (f0, .inl (kI, 63, .inl (bsI cs))), (f1, .inl (kJ, 64, .inr (.inl kg))), (f2, .inl (kI, 64, .inl (bsI re))), (f3, .inl (kI, 64, .inl (bsI ro))), (f4, .inl (kZ, 64, .inl ba)), (f5, .inl (kJ, 64, .inr (.inl co))), (f6, .inl (kI, 384, .inl (bsI od))), (f7, .inl (kI, 6, .inl (bsI rw)))]) (cx := [(u, .inr (0, [.int (nI tb), .long tl, .int tsec, .int tv, .ref u0, .ref u1, .ref u2, .ref u3, .ref u4, .ref u5])), (u0, .inl (kJ, 6, .inr (.inl tk))), (u1, .inl (kI, 6, .inl tbs)), (u2, .inl (kG, 7, .inr (.inr (.inr (.inr (fun i => some (ur i))))))), (u3, .inl (kH, 7, .inr (.inr (.inr (.inr (fun i => some (us i))))))), (u4, .inl (kI, 6, .inl tg)), (u5, .inl (kI, 6, .inl ap)), (f6, .inl (kI, 384, .inl (bsI od)))]) (pl := (gI kI 7 7 ur S ++ (gJ kJ 7 7 us C ++ ([] : va_W)))) hP [1, 2, 3, 4, 5, 6, 7, 15] rfl
        refine vp_callSl (W.runV (C := NW) (As := [.ref f6, .int (nI (cs k * 6)), .int (nI (pcn (cs k)))]) (rest := []) ⟨hx, hb, hml, hown, hts⟩ (cW_costOfRound l D kI kJ kZ kG kH u u0 u1 u2 u3 u4 u5 ur us tb tl tsec tv tk tbs S C tg ap f6 od (cs k * 6) (pcn (cs k)) hod (by omega)) ⟨cB 3 hts hw488 hw2 hw485 (by decide +kernel) ⟨Nat.le_of_ble_eq_true rfl, Nat.le_of_ble_eq_true rfl⟩ rfl rfl, hts _ (gw_t _ hw486), hts _ (gw_t _ hw487)⟩ ⟨fun a U g mk q => ⟨q.1, q.2.calling g mk a⟩, va_recv hK hPc (ci := 0) (q0 := 0) rfl rfl, fun U hU hW => ⟨rfl, wd.use hPc hK hN hU hW⟩⟩ rfl rfl hl.1 rfl (lv_room (Nat.le_of_ble_eq_true rfl)) dC_check_44 ⟨Nat.le_of_ble_eq_true rfl, Nat.le_of_ble_eq_true rfl⟩) (fun r44 hr44 => ?_)
        refine lv_aload_n hx hb dC_check_47 rfl (lv_at hl 2 rfl) ?_
        refine va_get (D := D) (cl := rcl) (ci := 5) (v := .ref f) (C := NC) (T := TC) (N := 6) hx hb hts (fun w h => gw_t w (uwC w h)) hown hK hP 0 rfl rfl 3 (by decide) (hts _ (gw_t _ hw223)) (fun _ h9 => h9) rfl dC_check_48 ?_
        refine va_get (D := D) (cl := rcl) (ci := 4) (v := .ref f5) (C := NR) (T := TR) (N := 14) hx hb hts (fun w h => gw_t w (uwR w h)) hown hK hP 8 rfl rfl 11 (by decide) (hts _ (gw_t _ hw187)) (fun _ h9 => h9) rfl dC_check_51 ?_
        refine lv_iload_n hx hb dC_check_54 rfl (lv_at hl 1 rfl) ?_
        refine ra_l (k := cs k) hx hb hK hP 14 1 rfl rfl (by omega) (by omega) dC_check_55 ?_
        refine W.lcmp hx hb dC_check_56 ?_
        refine lv_if_eq (tgt := 64) hx hb dC_check_57 (by decide) (fun c57 => ?_) (fun c57 => ?_)
        · have c57 := (lg_cmp_eq r44 (co (cs k))).mp c57
          refine lv_iinc (v := nI (k + 1)) (lv' := [(1, .int (nI (k + 1))), (3, .int (nI (pcn (cs k)))), (2, .int (nI (cs k))), (0, .ref h0)]) hx hb dC_check_64 hl (k := 3) rfl (nI_add k 1) (by decide) rfl (fun ls hl => ?_)
          refine lv_goto (tgt := 2) hx hb dC_check_67 (by decide) ?_
          exact ihLP2 (k + 1) ls (by omega) (by omega) (by rw [hf, show cc - k = (cc - (k + 1)) + 1 by omega]; simp only [ckF]; rw [if_pos (hr44.symm.trans c57)]) (lv_sub hl [3, 0] rfl)
        · have c57 := mt (lg_cmp_eq r44 (co (cs k))).mpr c57
          refine lv_iconst (v := 1) hx hb dC_check_60 (by decide) ?_
          refine lv_iload_n hx hb dC_check_61 rfl (lv_at hl 3 rfl) ?_
          refine lv_iadd hx hb dC_check_62 ?_
          refine lc_i (y := nI (1 + k)) (nI_add 1 k) ?_
          exact W.iret (v := nI (1 + k)) hx hb hr (fun t ht9 hW9 => ⟨_, rfl, by rw [hf, show cc - k = (cc - (k + 1)) + 1 by omega]; simp only [ckF]; rw [if_neg (fun q => c57 (hr44.trans q))], ht9⟩) t_nil dC_check_63
  refine lv_iconst (v := 0) hx hb dC_check_0 (by decide) ?_
  refine lv_istore_n (lv' := [(1, .int 0), (0, .ref h0)]) hx hb dC_check_1 rfl hl (by decide) rfl (fun ls hl => ?_)
  exact LP2 _ 0 ls (Nat.lt_succ_self _) (by omega) rfl (lv_sub hl [1, 0] rfl)

set_option maxHeartbeats 4000000 in
set_option maxRecDepth 100000 in
theorem cC_share (l : Launch) (D : va_G) (kI kJ kZ kG kH : ClassId) (h0 : Nat) (u : Nat) (x : Nat) (y : Nat) (f : Nat) (g : Nat) (wr : Int32) (f0 : Nat) (f1 : Nat) (f2 : Nat) (f3 : Nat) (f4 : Nat) (f5 : Nat) (f6 : Nat) (f7 : Nat) (y0 : Nat) (y1 : Nat) (y2 : Nat) (ya : Nat → Int32) (yb : Nat → Int64) (yc : Nat → Int64) (bn : Nat) (ld : Int64) (vh : Int32) (lc : Nat) (cc : Nat) (cs : Nat → Nat) (kg : Nat → Int64) (re : Nat → Nat) (ro : Nat → Nat) (ba : Nat → Int32) (co : Nat → Int64) (od : Nat → Nat) (rw : Nat → Nat) (b : Int32) (pt : Int32) (hcc : cc ≤ 63) (hcs : ∀ j, j < 63 → cs j < 64) (sz : Nat) : Met l yC_share wC_share (rmL 3 0 0) (va_Pc [.ref h0, .int b, .int pt] (fun U => U.heap.size = sz ∧ wd D kI kJ kZ kG kH [(h0, .inr (5, [.ref u, .ref x, .ref y, .ref f, .ref g, .int wr])), (y, .inr (1, [.ref y0, .ref y1, .ref y2])), (y0, .inl (kZ, 1, .inl ya)), (y1, .inl (kJ, 1, .inr (.inl yb))), (y2, .inl (kJ, 1, .inr (.inl yc))), (f, .inr (4, [.ref u, .int (nI bn), .long ld, .int vh, .int (nI lc), .int (nI cc), .ref f0, .ref f1, .ref f2, .ref f3, .ref f4, .ref f5, .ref f6, .ref f7])), (f0, .inl (kI, 63, .inl (bsI cs))), (f1, .inl (kJ, 64, .inr (.inl kg))), (f2, .inl (kI, 64, .inl (bsI re))), (f3, .inl (kI, 64, .inl (bsI ro))), (f4, .inl (kZ, 64, .inl ba)), (f5, .inl (kJ, 64, .inr (.inl co))), (f6, .inl (kI, 384, .inl (bsI od))), (f7, .inl (kI, 6, .inl (bsI rw)))] U ∧ va_D (fun _ => True) [(h0, .inr (5, [.ref u, .ref x, .ref y, .ref f, .ref g, .int wr])), (y, .inr (1, [.ref y0, .ref y1, .ref y2])), (y0, .inl (kZ, 1, .inl ya)), (y1, .inl (kJ, 1, .inr (.inl yb))), (y2, .inl (kJ, 1, .inr (.inl yc))), (f, .inr (4, [.ref u, .int (nI bn), .long ld, .int vh, .int (nI lc), .int (nI cc), .ref f0, .ref f1, .ref f2, .ref f3, .ref f4, .ref f5, .ref f6, .ref f7])), (f0, .inl (kI, 63, .inl (bsI cs))), (f1, .inl (kJ, 64, .inr (.inl kg))), (f2, .inl (kI, 64, .inl (bsI re))), (f3, .inl (kI, 64, .inl (bsI ro))), (f4, .inl (kZ, 64, .inl ba)), (f5, .inl (kJ, 64, .inr (.inl co))), (f6, .inl (kI, 384, .inl (bsI od))), (f7, .inl (kI, 6, .inl (bsI rw)))])) (va_Ql (fun (r : Int64) (v9 : (Nat → Int32) × (Nat → Int64) × (Nat → Int64)) => r = if 0 ≤ b ∧ b < nI cc then (if pt = 0 then fdT (kg (cs b.toNatClampNeg)) ld else if pt = 1 then fdB (kg (cs b.toNatClampNeg)) ld else 0) else 0) (fun v9 t => va_P D rcl [(h0, .inr (5, [.ref u, .ref x, .ref y, .ref f, .ref g, .int wr])), (y, .inr (1, [.ref y0, .ref y1, .ref y2])), (y0, .inl (kZ, 1, .inl v9.1)), (y1, .inl (kJ, 1, .inr (.inl v9.2.1))), (y2, .inl (kJ, 1, .inr (.inl v9.2.2))), (f, .inr (4, [.ref u, .int (nI bn), .long ld, .int vh, .int (nI lc), .int (nI cc), .ref f0, .ref f1, .ref f2, .ref f3, .ref f4, .ref f5, .ref f6, .ref f7])), (f0, .inl (kI, 63, .inl (bsI cs))), (f1, .inl (kJ, 64, .inr (.inl kg))), (f2, .inl (kI, 64, .inl (bsI re))), (f3, .inl (kI, 64, .inl (bsI ro))), (f4, .inl (kZ, 64, .inl ba)), (f5, .inl (kJ, 64, .inr (.inl co))), (f6, .inl (kI, 384, .inl (bsI od))), (f7, .inl (kI, 6, .inl (bsI rw)))] t.heap ∧ va_K D rcl (TY kI kJ kZ kG kH) t ∧ va_D (va_A [(h0, .inr (5, [.ref u, .ref x, .ref y, .ref f, .ref g, .int wr])), (y, .inr (1, [.ref y0, .ref y1, .ref y2])), (y0, .inl (kZ, 1, .inl ya)), (y1, .inl (kJ, 1, .inr (.inl yb))), (y2, .inl (kJ, 1, .inr (.inl yc))), (f, .inr (4, [.ref u, .int (nI bn), .long ld, .int vh, .int (nI lc), .int (nI cc), .ref f0, .ref f1, .ref f2, .ref f3, .ref f4, .ref f5, .ref f6, .ref f7])), (f0, .inl (kI, 63, .inl (bsI cs))), (f1, .inl (kJ, 64, .inr (.inl kg))), (f2, .inl (kI, 64, .inl (bsI re))), (f3, .inl (kI, 64, .inl (bsI ro))), (f4, .inl (kZ, 64, .inl ba)), (f5, .inl (kJ, 64, .inr (.inl co))), (f6, .inl (kI, 384, .inl (bsI od))), (f7, .inl (kI, 6, .inl (bsI rw)))] sz) [(h0, .inr (5, [.ref u, .ref x, .ref y, .ref f, .ref g, .int wr])), (y, .inr (1, [.ref y0, .ref y1, .ref y2])), (y0, .inl (kZ, 1, .inl v9.1)), (y1, .inl (kJ, 1, .inr (.inl v9.2.1))), (y2, .inl (kJ, 1, .inr (.inl v9.2.2))), (f, .inr (4, [.ref u, .int (nI bn), .long ld, .int vh, .int (nI lc), .int (nI cc), .ref f0, .ref f1, .ref f2, .ref f3, .ref f4, .ref f5, .ref f6, .ref f7])), (f0, .inl (kI, 63, .inl (bsI cs))), (f1, .inl (kJ, 64, .inr (.inl kg))), (f2, .inl (kI, 64, .inl (bsI re))), (f3, .inl (kI, 64, .inl (bsI ro))), (f4, .inl (kZ, 64, .inl ba)), (f5, .inl (kJ, 64, .inr (.inl co))), (f6, .inl (kI, 384, .inl (bsI od))), (f7, .inl (kI, 6, .inl (bsI rw)))]) (va_A [(h0, .inr (5, [.ref u, .ref x, .ref y, .ref f, .ref g, .int wr])), (y, .inr (1, [.ref y0, .ref y1, .ref y2])), (y0, .inl (kZ, 1, .inl ya)), (y1, .inl (kJ, 1, .inr (.inl yb))), (y2, .inl (kJ, 1, .inr (.inl yc))), (f, .inr (4, [.ref u, .int (nI bn), .long ld, .int vh, .int (nI lc), .int (nI cc), .ref f0, .ref f1, .ref f2, .ref f3, .ref f4, .ref f5, .ref f6, .ref f7])), (f0, .inl (kI, 63, .inl (bsI cs))), (f1, .inl (kJ, 64, .inr (.inl kg))), (f2, .inl (kI, 64, .inl (bsI re))), (f3, .inl (kI, 64, .inl (bsI ro))), (f4, .inl (kZ, 64, .inl ba)), (f5, .inl (kJ, 64, .inr (.inl co))), (f6, .inl (kI, 384, .inl (bsI od))), (f7, .inl (kI, 6, .inl (bsI rw)))] sz)) 0 0 (va_A [(h0, .inr (5, [.ref u, .ref x, .ref y, .ref f, .ref g, .int wr])), (y, .inr (1, [.ref y0, .ref y1, .ref y2])), (y0, .inl (kZ, 1, .inl ya)), (y1, .inl (kJ, 1, .inr (.inl yb))), (y2, .inl (kJ, 1, .inr (.inl yc))), (f, .inr (4, [.ref u, .int (nI bn), .long ld, .int vh, .int (nI lc), .int (nI cc), .ref f0, .ref f1, .ref f2, .ref f3, .ref f4, .ref f5, .ref f6, .ref f7])), (f0, .inl (kI, 63, .inl (bsI cs))), (f1, .inl (kJ, 64, .inr (.inl kg))), (f2, .inl (kI, 64, .inl (bsI re))), (f3, .inl (kI, 64, .inl (bsI ro))), (f4, .inl (kZ, 64, .inl ba)), (f5, .inl (kJ, 64, .inr (.inl co))), (f6, .inl (kI, 384, .inl (bsI od))), (f7, .inl (kI, 6, .inl (bsI rw)))] sz) := by
  refine Met.ofW (cc := bC_share) (maxL := 3) (ret := (some .long)) (by decide) rfl ?_
  intro p e s m args below meth c s₁ B hml hv
  obtain ⟨rfl, hsz, ⟨hP, hK, hN⟩, hD0⟩ := hv
  have hx := B.exec
  have hb := B.bytes
  have hr := B.returns
  have hts := atoms_spec (ws := wC_share) B.pre
  have hown : s.vm.findClass NC = some m.cls := findClass_of_methodNamed B.named
  have hlocks := B.notSynchronized
  subst hsz
  have hD := hD0.self (sz := s.heap.size)
  generalize hAe : va_A [(h0, .inr (5, [.ref u, .ref x, .ref y, .ref f, .ref g, .int wr])), (y, .inr (1, [.ref y0, .ref y1, .ref y2])), (y0, .inl (kZ, 1, .inl ya)), (y1, .inl (kJ, 1, .inr (.inl yb))), (y2, .inl (kJ, 1, .inr (.inl yc))), (f, .inr (4, [.ref u, .int (nI bn), .long ld, .int vh, .int (nI lc), .int (nI cc), .ref f0, .ref f1, .ref f2, .ref f3, .ref f4, .ref f5, .ref f6, .ref f7])), (f0, .inl (kI, 63, .inl (bsI cs))), (f1, .inl (kJ, 64, .inr (.inl kg))), (f2, .inl (kI, 64, .inl (bsI re))), (f3, .inl (kI, 64, .inl (bsI ro))), (f4, .inl (kZ, 64, .inl ba)), (f5, .inl (kJ, 64, .inr (.inl co))), (f6, .inl (kI, 384, .inl (bsI od))), (f7, .inl (kI, 6, .inl (bsI rw)))] s.heap.size = A at hD ⊢
  have hA : ∀ q : Nat, s.heap.size ≤ q → A q := fun q h => by rw [← hAe]; exact Or.inr h
  have hS : va_S A s.heap s.heap [] := va_S.rf
  have hP : va_P D rcl [(h0, .inr (5, [.ref u, .ref x, .ref y, .ref f, .ref g, .int wr])), (y, .inr (1, [.ref y0, .ref y1, .ref y2])), (y0, .inl (kZ, 1, .inl ya)), (y1, .inl (kJ, 1, .inr (.inl yb))), (y2, .inl (kJ, 1, .inr (.inl yc))), (f, .inr (4, [.ref u, .int (nI bn), .long ld, .int vh, .int (nI lc), .int (nI cc), .ref f0, .ref f1, .ref f2, .ref f3, .ref f4, .ref f5, .ref f6, .ref f7])), (f0, .inl (kI, 63, .inl (bsI cs))), (f1, .inl (kJ, 64, .inr (.inl kg))), (f2, .inl (kI, 64, .inl (bsI re))), (f3, .inl (kI, 64, .inl (bsI ro))), (f4, .inl (kZ, 64, .inl ba)), (f5, .inl (kJ, 64, .inr (.inl co))), (f6, .inl (kI, 384, .inl (bsI od))), (f7, .inl (kI, 6, .inl (bsI rw)))] s.heap := hP
  have hl := lv_entry ([.ref h0, .int b, .int pt]) (n := 3) (Nat.le_of_ble_eq_true rfl)
  rw [lg_entry_eq]
  generalize (lg_sl ([.ref h0, .int b, .int pt]) ++ List.replicate (3 - (lg_sl ([.ref h0, .int b, .int pt])).length) Slot.unset).toArray = ls at hl ⊢
  have hl : lv_has ls 3 [(0, .ref h0), (1, .int b), (2, .int pt)] := hl
  refine lv_iload_n hx hb dC_share_0 rfl (lv_at hl 1 rfl) ?_
  refine lv_aload_n hx hb dC_share_1 rfl (lv_at hl 0 rfl) ?_
  refine va_get (D := D) (cl := rcl) (ci := 5) (v := .ref f) (C := NC) (T := TC) (N := 6) hx hb hts (fun w h => gw_t w (uwC w h)) hown hK hP 0 rfl rfl 3 (by decide) (hts _ (gw_t _ hw223)) (fun _ h9 => h9) rfl dC_share_2 ?_
  refine va_get (D := D) (cl := rcl) (ci := 4) (v := .int (nI cc)) (C := NR) (T := TR) (N := 14) hx hb hts (fun w h => gw_t w (uwR w h)) hown hK hP 5 rfl rfl 5 (by decide) (hts _ (gw_t _ hw175)) (fun _ h9 => h9) rfl dC_share_5 ?_
  refine vp_callSi (W.runS (As := [.int b, .int (nI cc)]) (rest := []) ⟨hx, hb, hml, hown, hts⟩ (cC_isIndex l b (nI cc)) ⟨cB 2 hts hw269 hw1 hw267 (by decide +kernel) ⟨Nat.le_of_ble_eq_true rfl, Nat.le_of_ble_eq_true rfl⟩ rfl rfl, hts _ (gw_t _ hw268)⟩ ⟨fun a U g mk q => ⟨q.1, trivial⟩, fun U hU hW => ⟨rfl, trivial⟩⟩ rfl rfl hl.1 rfl (lv_room (Nat.le_of_ble_eq_true rfl)) dC_share_8 ⟨Nat.le_of_ble_eq_true rfl, Nat.le_of_ble_eq_true rfl⟩) (fun r8 hr8 => ?_)
  refine lv_if_ne (tgt := 16) hx hb dC_share_11 (by decide) (fun c11 => ?_) (fun c11 => ?_)
  · have w11 := w_t hr8 c11
    obtain ⟨i9, hi9, rfl⟩ := ix_of w11 (by omega)
    have hci := hcs i9 (by omega)
    refine lv_aload_n hx hb dC_share_16 rfl (lv_at hl 0 rfl) ?_
    refine va_get (D := D) (cl := rcl) (ci := 5) (v := .ref y) (C := NC) (T := TC) (N := 6) hx hb hts (fun w h => gw_t w (uwC w h)) hown hK hP 0 rfl rfl 2 (by decide) (hts _ (gw_t _ hw222)) (fun _ h9 => h9) rfl dC_share_17 ?_
    refine lv_iconst (v := 0) hx hb dC_share_20 (by decide) ?_
    refine lv_aload_n hx hb dC_share_21 rfl (lv_at hl 0 rfl) ?_
    refine va_get (D := D) (cl := rcl) (ci := 5) (v := .ref f) (C := NC) (T := TC) (N := 6) hx hb hts (fun w h => gw_t w (uwC w h)) hown hK hP 0 rfl rfl 3 (by decide) (hts _ (gw_t _ hw223)) (fun _ h9 => h9) rfl dC_share_22 ?_
    refine va_get (D := D) (cl := rcl) (ci := 4) (v := .ref f1) (C := NR) (T := TR) (N := 14) hx hb hts (fun w h => gw_t w (uwR w h)) hown hK hP 5 rfl rfl 7 (by decide) (hts _ (gw_t _ hw180)) (fun _ h9 => h9) rfl dC_share_25 ?_
    refine lv_aload_n hx hb dC_share_28 rfl (lv_at hl 0 rfl) ?_
    refine va_get (D := D) (cl := rcl) (ci := 5) (v := .ref f) (C := NC) (T := TC) (N := 6) hx hb hts (fun w h => gw_t w (uwC w h)) hown hK hP 0 rfl rfl 3 (by decide) (hts _ (gw_t _ hw223)) (fun _ h9 => h9) rfl dC_share_29 ?_
    refine va_get (D := D) (cl := rcl) (ci := 4) (v := .ref f0) (C := NR) (T := TR) (N := 14) hx hb hts (fun w h => gw_t w (uwR w h)) hown hK hP 5 rfl rfl 6 (by decide) (hts _ (gw_t _ hw178)) (fun _ h9 => h9) rfl dC_share_32 ?_
    refine lv_iload_n hx hb dC_share_35 rfl (lv_at hl 1 rfl) ?_
    refine ra_i (k := i9) hx hb hK hP 6 0 rfl rfl (by omega) (by omega) dC_share_36 ?_
    refine lc_i (y := nI (cs i9)) (rfl) ?_
    refine ra_l (k := cs i9) hx hb hK hP 7 1 rfl rfl (by omega) (by omega) dC_share_37 ?_
    refine lv_aload_n hx hb dC_share_38 rfl (lv_at hl 0 rfl) ?_
    refine va_get (D := D) (cl := rcl) (ci := 5) (v := .ref f) (C := NC) (T := TC) (N := 6) hx hb hts (fun w h => gw_t w (uwC w h)) hown hK hP 0 rfl rfl 3 (by decide) (hts _ (gw_t _ hw223)) (fun _ h9 => h9) rfl dC_share_39 ?_
    refine va_get (D := D) (cl := rcl) (ci := 4) (v := .long ld) (C := NR) (T := TR) (N := 14) hx hb hts (fun w h => gw_t w (uwR w h)) hown hK hP 5 rfl rfl 2 (by decide) (hts _ (gw_t _ hw168)) (fun _ h9 => h9) rfl dC_share_42 ?_
    have hPc := hP.sub (ws' := [(y, .inr (1, [.ref y0, .ref y1, .ref y2])), (y0, .inl (kZ, 1, .inl ya)), (y1, .inl (kJ, 1, .inr (.inl yb))), (y2, .inl (kJ, 1, .inr (.inl yc)))]) [1, 2, 3, 4] rfl
    have hDc := hD.sub (ws' := [(y, .inr (1, [.ref y0, .ref y1, .ref y2])), (y0, .inl (kZ, 1, .inl ya)), (y1, .inl (kJ, 1, .inr (.inl yb))), (y2, .inl (kJ, 1, .inr (.inl yc)))]) [1, 2, 3, 4] (by decide) rfl
    have hFc := va_free (wc := [(y, .inr (1, [.ref y0, .ref y1, .ref y2])), (y0, .inl (kZ, 1, .inl ya)), (y1, .inl (kJ, 1, .inr (.inl yb))), (y2, .inl (kJ, 1, .inr (.inl yc)))]) hD hS hA [1, 2, 3, 4] rfl
    refine va_callv (va_runV (C := NF) (As := [.int 0, .long (kg (cs i9)), .long ld]) (rest := []) ⟨hx, hb, hml, hown, hts⟩ (cF_put l D kI kJ kZ kG kH y y0 y1 y2 1 ya yb yc 0 (kg (cs i9)) ld (by decide) (by decide) s.heap.size) ⟨cB 3 hts hw396 hw5 hw441 (by decide +kernel) ⟨Nat.le_of_ble_eq_true rfl, Nat.le_of_ble_eq_true rfl⟩ rfl rfl, hts _ (gw_t _ hw394), hts _ (gw_t _ hw395)⟩ ⟨fun a U g mk q => ⟨q.1, q.2.1, q.2.2.1.calling g mk a, q.2.2.2⟩, va_recv hK hPc (ci := 1) (q0 := 0) rfl rfl, fun U hU hW => ⟨rfl, by rw [hU], wd.use hPc hK hN hU hW, hDc.weaken (fun _ _ _ _ => trivial)⟩⟩ rfl rfl hl.1 rfl (lv_room (Nat.le_of_ble_eq_true rfl)) dC_share_45 ⟨Nat.le_of_ble_eq_true rfl, Nat.le_of_ble_eq_true rfl⟩) hS (fun q _ h => hFc q h) hFc (fun u9 t9 H1 locs ht9 hvm9 hr1 hB9 hz9 hk9 hS => ?_)
    obtain ⟨hP1, -, hD1⟩ := hB9
    rw [ht9] at hP1
    obtain ⟨hP, hD⟩ := va_join (wr := [(h0, .inr (5, [.ref u, .ref x, .ref y, .ref f, .ref g, .int wr])), (f, .inr (4, [.ref u, .int (nI bn), .long ld, .int vh, .int (nI lc), .int (nI cc), .ref f0, .ref f1, .ref f2, .ref f3, .ref f4, .ref f5, .ref f6, .ref f7])), (f0, .inl (kI, 63, .inl (bsI cs))), (f1, .inl (kJ, 64, .inr (.inl kg))), (f2, .inl (kI, 64, .inl (bsI re))), (f3, .inl (kI, 64, .inl (bsI ro))), (f4, .inl (kZ, 64, .inl ba)), (f5, .inl (kJ, 64, .inr (.inl co))), (f6, .inl (kI, 384, .inl (bsI od))), (f7, .inl (kI, 6, .inl (bsI rw)))]) (w1 := [(y, .inr (1, [.ref y0, .ref y1, .ref y2])), (y0, .inl (kZ, 1, .inl (upd ya 0 1))), (y1, .inl (kJ, 1, .inr (.inl (vp_updL yb 0 (fdT (kg (cs i9)) ld))))), (y2, .inl (kJ, 1, .inr (.inl (vp_updL yc 0 (fdB (kg (cs i9)) ld)))))]) hP hD [1, 2, 3, 4] [0, 5, 6, 7, 8, 9, 10, 11, 12, 13] rfl rfl (by decide) (by decide) hk9 hFc hP1 hD1
    generalize H1 = H at hP hS ⊢
    have hP : va_P D rcl [(h0, .inr (5, [.ref u, .ref x, .ref y, .ref f, .ref g, .int wr])), (f, .inr (4, [.ref u, .int (nI bn), .long ld, .int vh, .int (nI lc), .int (nI cc), .ref f0, .ref f1, .ref f2, .ref f3, .ref f4, .ref f5, .ref f6, .ref f7])), (f0, .inl (kI, 63, .inl (bsI cs))), (f1, .inl (kJ, 64, .inr (.inl kg))), (f2, .inl (kI, 64, .inl (bsI re))), (f3, .inl (kI, 64, .inl (bsI ro))), (f4, .inl (kZ, 64, .inl ba)), (f5, .inl (kJ, 64, .inr (.inl co))), (f6, .inl (kI, 384, .inl (bsI od))), (f7, .inl (kI, 6, .inl (bsI rw))), (y, .inr (1, [.ref y0, .ref y1, .ref y2])), (y0, .inl (kZ, 1, .inl (upd ya 0 1))), (y1, .inl (kJ, 1, .inr (.inl (vp_updL yb 0 (fdT (kg (cs i9)) ld))))), (y2, .inl (kJ, 1, .inr (.inl (vp_updL yc 0 (fdB (kg (cs i9)) ld)))))] H := hP
    have hD : va_D A [(h0, .inr (5, [.ref u, .ref x, .ref y, .ref f, .ref g, .int wr])), (f, .inr (4, [.ref u, .int (nI bn), .long ld, .int vh, .int (nI lc), .int (nI cc), .ref f0, .ref f1, .ref f2, .ref f3, .ref f4, .ref f5, .ref f6, .ref f7])), (f0, .inl (kI, 63, .inl (bsI cs))), (f1, .inl (kJ, 64, .inr (.inl kg))), (f2, .inl (kI, 64, .inl (bsI re))), (f3, .inl (kI, 64, .inl (bsI ro))), (f4, .inl (kZ, 64, .inl ba)), (f5, .inl (kJ, 64, .inr (.inl co))), (f6, .inl (kI, 384, .inl (bsI od))), (f7, .inl (kI, 6, .inl (bsI rw))), (y, .inr (1, [.ref y0, .ref y1, .ref y2])), (y0, .inl (kZ, 1, .inl (upd ya 0 1))), (y1, .inl (kJ, 1, .inr (.inl (vp_updL yb 0 (fdT (kg (cs i9)) ld))))), (y2, .inl (kJ, 1, .inr (.inl (vp_updL yc 0 (fdB (kg (cs i9)) ld)))))] := hD
    refine lv_aload_n hx hb dC_share_48 rfl (lv_at hl 0 rfl) ?_
    refine va_get (D := D) (cl := rcl) (ci := 5) (v := .ref y) (C := NC) (T := TC) (N := 6) hx hb hts (fun w h => gw_t w (uwC w h)) hown hK hP 0 rfl rfl 2 (by decide) (hts _ (gw_t _ hw222)) (fun _ h9 => h9) rfl dC_share_49 ?_
    refine lv_iconst (v := 0) hx hb dC_share_52 (by decide) ?_
    refine lv_iload_n hx hb dC_share_53 rfl (lv_at hl 2 rfl) ?_
    have hPc := hP.sub (ws' := [(y, .inr (1, [.ref y0, .ref y1, .ref y2])), (y0, .inl (kZ, 1, .inl (upd ya 0 1))), (y1, .inl (kJ, 1, .inr (.inl (vp_updL yb 0 (fdT (kg (cs i9)) ld))))), (y2, .inl (kJ, 1, .inr (.inl (vp_updL yc 0 (fdB (kg (cs i9)) ld)))))]) [10, 11, 12, 13] rfl
    refine vp_callSl (W.runV (C := NF) (As := [.int 0, .int pt]) (rest := []) ⟨hx, hb, hml, hown, hts⟩ (cF_tell l D kI kJ kZ kG kH y y0 y1 y2 1 (upd ya 0 1) (vp_updL yb 0 (fdT (kg (cs i9)) ld)) (vp_updL yc 0 (fdB (kg (cs i9)) ld)) 0 pt (by decide) (by decide)) ⟨cB 2 hts hw312 hw5 hw309 (by decide +kernel) ⟨Nat.le_of_ble_eq_true rfl, Nat.le_of_ble_eq_true rfl⟩ rfl rfl, hts _ (gw_t _ hw310), hts _ (gw_t _ hw311)⟩ ⟨fun a U g mk q => ⟨q.1, q.2.calling g mk a⟩, va_recv hK hPc (ci := 1) (q0 := 0) rfl rfl, fun U hU hW => ⟨rfl, wd.use hPc hK hN hU hW⟩⟩ rfl rfl hl.1 rfl (lv_room (Nat.le_of_ble_eq_true rfl)) dC_share_54 ⟨Nat.le_of_ble_eq_true rfl, Nat.le_of_ble_eq_true rfl⟩) (fun r54 hr54 => ?_)
    have hP := hP.sub (ws' := [(h0, .inr (5, [.ref u, .ref x, .ref y, .ref f, .ref g, .int wr])), (y, .inr (1, [.ref y0, .ref y1, .ref y2])), (y0, .inl (kZ, 1, .inl (upd ya 0 1))), (y1, .inl (kJ, 1, .inr (.inl (vp_updL yb 0 (fdT (kg (cs i9)) ld))))), (y2, .inl (kJ, 1, .inr (.inl (vp_updL yc 0 (fdB (kg (cs i9)) ld))))), (f, .inr (4, [.ref u, .int (nI bn), .long ld, .int vh, .int (nI lc), .int (nI cc), .ref f0, .ref f1, .ref f2, .ref f3, .ref f4, .ref f5, .ref f6, .ref f7])), (f0, .inl (kI, 63, .inl (bsI cs))), (f1, .inl (kJ, 64, .inr (.inl kg))), (f2, .inl (kI, 64, .inl (bsI re))), (f3, .inl (kI, 64, .inl (bsI ro))), (f4, .inl (kZ, 64, .inl ba)), (f5, .inl (kJ, 64, .inr (.inl co))), (f6, .inl (kI, 384, .inl (bsI od))), (f7, .inl (kI, 6, .inl (bsI rw)))]) [0, 10, 11, 12, 13, 1, 2, 3, 4, 5, 6, 7, 8, 9] rfl
    have hD := hD.sub (ws' := [(h0, .inr (5, [.ref u, .ref x, .ref y, .ref f, .ref g, .int wr])), (y, .inr (1, [.ref y0, .ref y1, .ref y2])), (y0, .inl (kZ, 1, .inl (upd ya 0 1))), (y1, .inl (kJ, 1, .inr (.inl (vp_updL yb 0 (fdT (kg (cs i9)) ld))))), (y2, .inl (kJ, 1, .inr (.inl (vp_updL yc 0 (fdB (kg (cs i9)) ld))))), (f, .inr (4, [.ref u, .int (nI bn), .long ld, .int vh, .int (nI lc), .int (nI cc), .ref f0, .ref f1, .ref f2, .ref f3, .ref f4, .ref f5, .ref f6, .ref f7])), (f0, .inl (kI, 63, .inl (bsI cs))), (f1, .inl (kJ, 64, .inr (.inl kg))), (f2, .inl (kI, 64, .inl (bsI re))), (f3, .inl (kI, 64, .inl (bsI ro))), (f4, .inl (kZ, 64, .inl ba)), (f5, .inl (kJ, 64, .inr (.inl co))), (f6, .inl (kI, 384, .inl (bsI od))), (f7, .inl (kI, 6, .inl (bsI rw)))]) [0, 10, 11, 12, 13, 1, 2, 3, 4, 5, 6, 7, 8, 9] (by decide) rfl
    have hP : va_P D rcl [(h0, .inr (5, [.ref u, .ref x, .ref y, .ref f, .ref g, .int wr])), (y, .inr (1, [.ref y0, .ref y1, .ref y2])), (y0, .inl (kZ, 1, .inl (upd ya 0 1))), (y1, .inl (kJ, 1, .inr (.inl (vp_updL yb 0 (fdT (kg (cs i9)) ld))))), (y2, .inl (kJ, 1, .inr (.inl (vp_updL yc 0 (fdB (kg (cs i9)) ld))))), (f, .inr (4, [.ref u, .int (nI bn), .long ld, .int vh, .int (nI lc), .int (nI cc), .ref f0, .ref f1, .ref f2, .ref f3, .ref f4, .ref f5, .ref f6, .ref f7])), (f0, .inl (kI, 63, .inl (bsI cs))), (f1, .inl (kJ, 64, .inr (.inl kg))), (f2, .inl (kI, 64, .inl (bsI re))), (f3, .inl (kI, 64, .inl (bsI ro))), (f4, .inl (kZ, 64, .inl ba)), (f5, .inl (kJ, 64, .inr (.inl co))), (f6, .inl (kI, 384, .inl (bsI od))), (f7, .inl (kI, 6, .inl (bsI rw)))] H := hP
    have hD : va_D A [(h0, .inr (5, [.ref u, .ref x, .ref y, .ref f, .ref g, .int wr])), (y, .inr (1, [.ref y0, .ref y1, .ref y2])), (y0, .inl (kZ, 1, .inl (upd ya 0 1))), (y1, .inl (kJ, 1, .inr (.inl (vp_updL yb 0 (fdT (kg (cs i9)) ld))))), (y2, .inl (kJ, 1, .inr (.inl (vp_updL yc 0 (fdB (kg (cs i9)) ld))))), (f, .inr (4, [.ref u, .int (nI bn), .long ld, .int vh, .int (nI lc), .int (nI cc), .ref f0, .ref f1, .ref f2, .ref f3, .ref f4, .ref f5, .ref f6, .ref f7])), (f0, .inl (kI, 63, .inl (bsI cs))), (f1, .inl (kJ, 64, .inr (.inl kg))), (f2, .inl (kI, 64, .inl (bsI re))), (f3, .inl (kI, 64, .inl (bsI ro))), (f4, .inl (kZ, 64, .inl ba)), (f5, .inl (kJ, 64, .inr (.inl co))), (f6, .inl (kI, 384, .inl (bsI od))), (f7, .inl (kI, 6, .inl (bsI rw)))] := hD
    refine W.widen (k := 0) (n := 0) (by omega) (by omega) ?_
    exact W.lret (v := r54) hx hb hr (fun t ht9 hW9 => ⟨⟨_, (upd ya 0 1, vp_updL yb 0 (fdT (kg (cs i9)) ld), vp_updL yc 0 (fdB (kg (cs i9)) ld)), rfl, by rw [if_pos w11, nI_clamp (by omega)]; exact hr54, by rw [ht9]; exact hP, va_K.moved hW9.alike hK, hD⟩, hS.F ht9⟩) hS.2.2 dC_share_57
  · have w11 := w_f hr8 c11
    refine lv_lconst (v := 0) hx hb dC_share_14 (by decide) ?_
    refine W.widen (k := 0) (n := 0) (by omega) (by omega) ?_
    exact W.lret (v := 0) hx hb hr (fun t ht9 hW9 => ⟨⟨_, (ya, yb, yc), rfl, by rw [if_neg w11], by rw [ht9]; exact hP, va_K.moved hW9.alike hK, hD⟩, hS.F ht9⟩) hS.2.2 dC_share_15
