/-! the reference's rows: sets, seconds, kilograms, costs, and the next row -/
def msk (rw : Nat → Nat) : Nat → Nat
  | 0 => 0
  | i + 1 => msk rw i ||| 2 ^ rw i
theorem msk_lt {rw : Nat → Nat} (h : ∀ j, j < 6 → rw j < 6) : ∀ {n : Nat}, n ≤ 6 → msk rw n < 64
  | 0, _ => by show 0 < 64; decide
  | n + 1, hn => or_64 (msk_lt h (by omega)) (h n (by omega))
def frM (rw : Nat → Nat) (i : Nat) : Nat := if i = 0 then 0 else rw (i - 1) + 1
theorem frM_lt {rw : Nat → Nat} {i : Nat} (h : ∀ j, j < 6 → rw j < 6) (hi : i < 6) : frM rw i < 7 := by
  unfold frM
  split
  · decide
  · have := h (i - 1) (by omega); omega
def secF (W B : Nat → Int32) (rw : Nat → Nat) : Nat → Nat → Int32 → Int32
  | 0, _, s => s
  | n + 1, i, s => if W (7 * frM rw i + rw i + 1) < 0 then -1 else secF W B rw n (i + 1) (s + (W (7 * frM rw i + rw i + 1) + B (rw i)))
def kilF (K : Nat → Int32) (rw : Nat → Nat) : Nat → Int32
  | 0 => 0
  | i + 1 => kilF K rw i + K (rw i)
abbrev rowB (K W B : Nat → Int32) (ld tm : Int32) (rw : Nat → Nat) (ln : Nat) : Prop := kilF K rw ln ≤ ld ∧ 0 ≤ secF W B rw ln 0 0 ∧ secF W B rw ln 0 0 ≤ tm
abbrev rndB (K W B : Nat → Int32) (ld tm : Int32) (rw : Nat → Nat) (ln : Nat) : Prop := rowB K W B ld tm rw ln ∧ 0 ≤ W (7 * (rw (ln - 1) + 1)) ∧ secF W B rw ln 0 0 + W (7 * (rw (ln - 1) + 1)) ≤ tm
def cosS (C : Nat → Int32) (rw : Nat → Nat) (ln : Nat) : Nat → Int32
  | 0 => C (7 * (rw (ln - 1) + 1))
  | i + 1 => cosS C rw ln i + C (7 * frM rw i + rw i + 1)
def cosF (C : Nat → Int32) (rw : Nat → Nat) (ln : Nat) : Int32 := cosS C rw ln ln
/-- the first bin from fr on that is not in the set -/
def fst (bn st fr : Nat) : Option Nat := nthP (fun b => !st.testBit b) 0 (bn - fr) fr 0
theorem fst_hit {bn st b : Nat} (h : b < bn) (hb : ¬ st.testBit b = true) : fst bn st b = some b := by
  unfold fst
  rw [show bn - b = (bn - (b + 1)) + 1 by omega]
  simp only [nthP]
  rw [if_pos (by simpa using hb), if_pos (by decide)]
theorem fst_step {bn st b : Nat} (h : b < bn) (hb : st.testBit b = true) : fst bn st b = fst bn st (b + 1) := by
  unfold fst
  rw [show bn - b = (bn - (b + 1)) + 1 by omega]
  simp only [nthP]
  rw [if_neg (by simp [hb])]
theorem fst_none {bn st b : Nat} (h : bn ≤ b) : fst bn st b = none := by
  unfold fst
  rw [show bn - b = 0 by omega]
  rfl
/-- the next row: the place that changes, and its bin -/
def nxL (bn : Nat) (rw : Nat → Nat) : Nat → Nat → Option (Nat × Nat)
  | 0, fr => match fst bn (msk rw 0) fr with
    | some b => some (0, b)
    | none => none
  | l + 1, fr => match fst bn (msk rw (l + 1)) fr with
    | some b => some (l + 1, b)
    | none => nxL bn rw l (rw l + 1)
def nxT (bn : Nat) (rw : Nat → Nat) (ln : Nat) (lg : Int32) : Option (Nat × Nat) := if ¬ ¬ lg = 0 ∧ 0 < ln then nxL bn rw (ln - 1) (rw (ln - 1) + 1) else nxL bn rw ln 0
theorem nxL_hit {bn : Nat} {rw : Nat → Nat} {l fr b : Nat} (h : fst bn (msk rw l) fr = some b) : nxL bn rw l fr = some (l, b) := by
  cases l <;> simp only [nxL, h]
theorem nxL_pop {bn : Nat} {rw : Nat → Nat} {l fr : Nat} (hl : 0 < l) (h : fst bn (msk rw l) fr = none) : nxL bn rw l fr = nxL bn rw (l - 1) (rw (l - 1) + 1) := by
  cases l with
  | zero => omega
  | succ l => simp only [nxL, h]; rfl
theorem nxL_end {bn : Nat} {rw : Nat → Nat} {fr : Nat} (h : fst bn (msk rw 0) fr = none) : nxL bn rw 0 fr = none := by simp only [nxL, h]
def nxP (o : Option (Nat × Nat)) (rw : Nat → Nat) (r : Int32) (v : (Nat → Nat) × Nat) : Prop := match o with
  | none => r = 0 ∧ v = (rw, 0)
  | some (p, b) => r = 1 ∧ v = (upN rw p b, p + 1)
set_option maxHeartbeats 4000000 in
set_option maxRecDepth 100000 in
theorem cM_setOf (l : Launch) (D : va_G) (kI kJ kZ kG kH : ClassId) (h0 : Nat) (z_kilograms : Nat) (z_seconds : Nat) (z_waySeconds : Nat) (z_wayCosts : Nat) (z_pairs : Nat) (z_foundKilograms : Nat) (z_rows : Nat) (z_rounds : Nat) (z_costs : Nat) (z_lists : Nat) (z_barred : Nat) (z_row : Nat) (z_newRows : Nat) (z_newRounds : Nat) (z_newCosts : Nat) (z_newLists : Nat) (z_over : Nat) (z_under : Nat) (z_based : Nat) (z_open : Nat) (m_bins : Nat) (m_kilograms : Nat → Int32) (m_seconds : Nat → Int32) (m_waySeconds : Nat → Int32) (m_wayCosts : Nat → Int32) (m_load : Int32) (m_time : Int32) (m_vehicles : Int32) (m_pairs : Nat → Int32) (m_isFound : Int32) (m_foundBins : Int32) (m_foundLoad : Int32) (m_foundVehicles : Int32) (m_foundKilograms : Nat → Int32) (m_rows : Nat → Int32) (m_rounds : Nat → Int32) (m_costs : Nat → Int32) (m_lists : Nat → Int32) (m_barred : Nat → Int32) (m_fault : Int32) (m_newRows : Nat → Int32) (m_newRounds : Nat → Int32) (m_newCosts : Nat → Int32) (m_newLists : Nat → Int32) (m_over : Nat → Int64) (m_under : Nat → Int64) (m_based : Nat → Int32) (m_open : Nat → Int32) (rw : Nat → Nat) (ln : Nat) (hln : ln ≤ 6) (hrw : ∀ j, j < 6 → rw j < 6) : Met l yM_setOf wM_setOf (rmL 0 0 0) (va_Pc [.ref h0] (fun U => wd D kI kJ kZ kG kH [(h0, .inr (8, [.int (nI m_bins), .ref z_kilograms, .ref z_seconds, .ref z_waySeconds, .ref z_wayCosts, .int m_load, .int m_time, .int m_vehicles, .ref z_pairs, .int m_isFound, .int m_foundBins, .int m_foundLoad, .int m_foundVehicles, .ref z_foundKilograms, .ref z_rows, .ref z_rounds, .ref z_costs, .ref z_lists, .ref z_barred, .int m_fault, .ref z_row, .int (nI ln), .ref z_newRows, .ref z_newRounds, .ref z_newCosts, .ref z_newLists, .ref z_over, .ref z_under, .ref z_based, .ref z_open])), (z_kilograms, .inl (kI, 6, .inl m_kilograms)), (z_seconds, .inl (kI, 6, .inl m_seconds)), (z_waySeconds, .inl (kI, 49, .inl m_waySeconds)), (z_wayCosts, .inl (kI, 49, .inl m_wayCosts)), (z_pairs, .inl (kI, 36, .inl m_pairs)), (z_foundKilograms, .inl (kI, 6, .inl m_foundKilograms)), (z_rows, .inl (kZ, 384, .inl m_rows)), (z_rounds, .inl (kZ, 384, .inl m_rounds)), (z_costs, .inl (kI, 64, .inl m_costs)), (z_lists, .inl (kI, 384, .inl m_lists)), (z_barred, .inl (kZ, 64, .inl m_barred)), (z_row, .inl (kI, 6, .inl (bsI rw))), (z_newRows, .inl (kZ, 384, .inl m_newRows)), (z_newRounds, .inl (kZ, 384, .inl m_newRounds)), (z_newCosts, .inl (kI, 64, .inl m_newCosts)), (z_newLists, .inl (kI, 384, .inl m_newLists)), (z_over, .inl (kJ, 576, .inr (.inl m_over))), (z_under, .inl (kJ, 576, .inr (.inl m_under))), (z_based, .inl (kI, 7, .inl m_based)), (z_open, .inl (kZ, 64, .inl m_open))] U)) (vp_Si (fun r : Int32 => r = nI (msk rw ln))) 0 0 (fun _ => False) := by
  refine Met.ofW (cc := bM_setOf) (maxL := 3) (ret := (some .int)) (by decide) rfl ?_
  intro p e s m args below meth c s₁ B hml hv
  obtain ⟨rfl, hP, hK, hN⟩ := hv
  have hx := B.exec
  have hb := B.bytes
  have hr := B.returns
  have hts := atoms_spec (ws := wM_setOf) B.pre
  have hown : s.vm.findClass NM = some m.cls := findClass_of_methodNamed B.named
  have hlocks := B.notSynchronized
  have hl := lv_entry ([.ref h0]) (n := 3) (Nat.le_of_ble_eq_true rfl)
  rw [lg_entry_eq]
  generalize (lg_sl ([.ref h0]) ++ List.replicate (3 - (lg_sl ([.ref h0])).length) Slot.unset).toArray = ls at hl ⊢
  have hl : lv_has ls 3 [(0, .ref h0)] := hl
  have LP4 : ∀ (dd : Nat) (k : Nat) (ls : Array Slot), ln - k < dd → (k ≤ ln) → lv_has ls 3 [(0, .ref h0), (1, .int (nI (msk rw k))), (2, .int (nI k))] → W p l e (headSpec wM_setOf (rmL 0 0 0)).room s m ([.ref h0] : List Value).toArray below meth c s.heap [] 0 0 (MQ below (vp_Si (fun r : Int32 => r = nI (msk rw ln))) ([.ref h0] : List Value).toArray s 0 0 (fun _ => False)) (F0 m 4 ls []) := by
    intro dd
    induction dd with
    | zero =>
      intro k ls hm
      exact absurd hm (Nat.not_lt_zero _)
    | succ dd ihLP4 =>
      intro k ls hm hk hl
      refine lv_iload_n hx hb dM_setOf_4 rfl (lv_at hl 2 rfl) ?_
      refine lv_aload_n hx hb dM_setOf_5 rfl (lv_at hl 0 rfl) ?_
      refine va_get (D := D) (cl := rcl) (ci := 8) (v := .int (nI ln)) (C := NM) (T := TM) (N := 30) hx hb hts (fun w h => gw_t w (uwM w h)) hown hK hP 0 rfl rfl 21 (by decide) (hts _ (gw_t _ hw651)) (fun _ h9 => h9) rfl dM_setOf_6 ?_
      refine lv_icmp_ge (tgt := 29) hx hb dM_setOf_9 (by decide) (fun c9 => ?_) (fun c9 => ?_)
      · have c9 : ln ≤ k := (nI_leI (a := ln) (b := k) (by omega) (by omega)).mp c9
        refine lv_iload_n hx hb dM_setOf_29 rfl (lv_at hl 1 rfl) ?_
        exact W.iret (v := nI (msk rw k)) hx hb hr (fun t ht9 hW9 => ⟨_, rfl, by rw [show k = ln by omega], ht9⟩) t_nil dM_setOf_30
      · have c9 : ¬ ln ≤ k := mt (nI_leI (a := ln) (b := k) (by omega) (by omega)).mpr c9
        refine lv_iload_n hx hb dM_setOf_12 rfl (lv_at hl 1 rfl) ?_
        refine lv_iconst (v := 1) hx hb dM_setOf_13 (by decide) ?_
        refine lv_aload_n hx hb dM_setOf_14 rfl (lv_at hl 0 rfl) ?_
        refine va_get (D := D) (cl := rcl) (ci := 8) (v := .ref z_row) (C := NM) (T := TM) (N := 30) hx hb hts (fun w h => gw_t w (uwM w h)) hown hK hP 0 rfl rfl 20 (by decide) (hts _ (gw_t _ hw650)) (fun _ h9 => h9) rfl dM_setOf_15 ?_
        refine lv_iload_n hx hb dM_setOf_18 rfl (lv_at hl 2 rfl) ?_
        have hk6 := hrw k (by omega)
        refine ra_i (k := k) hx hb hK hP 12 0 rfl rfl (by omega) (by omega) dM_setOf_19 ?_
        refine lc_i (y := nI (rw k)) (rfl) ?_
        refine lv_ishl hx hb dM_setOf_20 ?_
        refine lc_i (y := nI (2 ^ rw k)) (nn_sh1 (by omega)) ?_
        refine lv_ior hx hb dM_setOf_21 ?_
        refine lc_i (y := nI (msk rw (k + 1))) (nn_or _ _) ?_
        refine lv_istore_n (lv' := [(1, .int (nI (msk rw (k + 1)))), (0, .ref h0), (2, .int (nI k))]) hx hb dM_setOf_22 rfl hl (by decide) rfl (fun ls hl => ?_)
        refine lv_iinc (v := nI (k + 1)) (lv' := [(2, .int (nI (k + 1))), (1, .int (nI (msk rw (k + 1)))), (0, .ref h0)]) hx hb dM_setOf_23 hl (k := 2) rfl (nI_add k 1) (by decide) rfl (fun ls hl => ?_)
        refine lv_goto (tgt := 4) hx hb dM_setOf_26 (by decide) ?_
        exact ihLP4 (k + 1) ls (by omega) (by omega) (lv_sub hl [2, 1, 0] rfl)
  refine lv_iconst (v := 0) hx hb dM_setOf_0 (by decide) ?_
  refine lc_i (y := nI (msk rw 0)) rfl ?_
  refine lv_istore_n (lv' := [(1, .int (nI (msk rw 0))), (0, .ref h0)]) hx hb dM_setOf_1 rfl hl (by decide) rfl (fun ls hl => ?_)
  refine lv_iconst (v := 0) hx hb dM_setOf_2 (by decide) ?_
  refine lv_istore_n (lv' := [(2, .int 0), (1, .int (nI (msk rw 0))), (0, .ref h0)]) hx hb dM_setOf_3 rfl hl (by decide) rfl (fun ls hl => ?_)
  exact LP4 _ 0 ls (Nat.lt_succ_self _) (by omega) (lv_sub hl [2, 1, 0] rfl)

set_option maxHeartbeats 4000000 in
set_option maxRecDepth 100000 in
theorem cM_secondsOf (l : Launch) (D : va_G) (kI kJ kZ kG kH : ClassId) (h0 : Nat) (z_kilograms : Nat) (z_seconds : Nat) (z_waySeconds : Nat) (z_wayCosts : Nat) (z_pairs : Nat) (z_foundKilograms : Nat) (z_rows : Nat) (z_rounds : Nat) (z_costs : Nat) (z_lists : Nat) (z_barred : Nat) (z_row : Nat) (z_newRows : Nat) (z_newRounds : Nat) (z_newCosts : Nat) (z_newLists : Nat) (z_over : Nat) (z_under : Nat) (z_based : Nat) (z_open : Nat) (m_bins : Nat) (m_kilograms : Nat → Int32) (m_seconds : Nat → Int32) (m_waySeconds : Nat → Int32) (m_wayCosts : Nat → Int32) (m_load : Int32) (m_time : Int32) (m_vehicles : Int32) (m_pairs : Nat → Int32) (m_isFound : Int32) (m_foundBins : Int32) (m_foundLoad : Int32) (m_foundVehicles : Int32) (m_foundKilograms : Nat → Int32) (m_rows : Nat → Int32) (m_rounds : Nat → Int32) (m_costs : Nat → Int32) (m_lists : Nat → Int32) (m_barred : Nat → Int32) (m_fault : Int32) (m_newRows : Nat → Int32) (m_newRounds : Nat → Int32) (m_newCosts : Nat → Int32) (m_newLists : Nat → Int32) (m_over : Nat → Int64) (m_under : Nat → Int64) (m_based : Nat → Int32) (m_open : Nat → Int32) (rw : Nat → Nat) (ln : Nat) (hln : ln ≤ 6) (hrw : ∀ j, j < 6 → rw j < 6) : Met l yM_secondsOf wM_secondsOf (rmL 0 0 0) (va_Pc [.ref h0] (fun U => wd D kI kJ kZ kG kH [(h0, .inr (8, [.int (nI m_bins), .ref z_kilograms, .ref z_seconds, .ref z_waySeconds, .ref z_wayCosts, .int m_load, .int m_time, .int m_vehicles, .ref z_pairs, .int m_isFound, .int m_foundBins, .int m_foundLoad, .int m_foundVehicles, .ref z_foundKilograms, .ref z_rows, .ref z_rounds, .ref z_costs, .ref z_lists, .ref z_barred, .int m_fault, .ref z_row, .int (nI ln), .ref z_newRows, .ref z_newRounds, .ref z_newCosts, .ref z_newLists, .ref z_over, .ref z_under, .ref z_based, .ref z_open])), (z_kilograms, .inl (kI, 6, .inl m_kilograms)), (z_seconds, .inl (kI, 6, .inl m_seconds)), (z_waySeconds, .inl (kI, 49, .inl m_waySeconds)), (z_wayCosts, .inl (kI, 49, .inl m_wayCosts)), (z_pairs, .inl (kI, 36, .inl m_pairs)), (z_foundKilograms, .inl (kI, 6, .inl m_foundKilograms)), (z_rows, .inl (kZ, 384, .inl m_rows)), (z_rounds, .inl (kZ, 384, .inl m_rounds)), (z_costs, .inl (kI, 64, .inl m_costs)), (z_lists, .inl (kI, 384, .inl m_lists)), (z_barred, .inl (kZ, 64, .inl m_barred)), (z_row, .inl (kI, 6, .inl (bsI rw))), (z_newRows, .inl (kZ, 384, .inl m_newRows)), (z_newRounds, .inl (kZ, 384, .inl m_newRounds)), (z_newCosts, .inl (kI, 64, .inl m_newCosts)), (z_newLists, .inl (kI, 384, .inl m_newLists)), (z_over, .inl (kJ, 576, .inr (.inl m_over))), (z_under, .inl (kJ, 576, .inr (.inl m_under))), (z_based, .inl (kI, 7, .inl m_based)), (z_open, .inl (kZ, 64, .inl m_open))] U)) (vp_Si (fun r : Int32 => r = secF m_waySeconds m_seconds rw ln 0 0)) 0 0 (fun _ => False) := by
  refine Met.ofW (cc := bM_secondsOf) (maxL := 4) (ret := (some .int)) (by decide) rfl ?_
  intro p e s m args below meth c s₁ B hml hv
  obtain ⟨rfl, hP, hK, hN⟩ := hv
  have hx := B.exec
  have hb := B.bytes
  have hr := B.returns
  have hts := atoms_spec (ws := wM_secondsOf) B.pre
  have hown : s.vm.findClass NM = some m.cls := findClass_of_methodNamed B.named
  have hlocks := B.notSynchronized
  have hl := lv_entry ([.ref h0]) (n := 4) (Nat.le_of_ble_eq_true rfl)
  rw [lg_entry_eq]
  generalize (lg_sl ([.ref h0]) ++ List.replicate (4 - (lg_sl ([.ref h0])).length) Slot.unset).toArray = ls at hl ⊢
  have hl : lv_has ls 4 [(0, .ref h0)] := hl
  have LP4 : ∀ (dd : Nat) (k : Nat) (s9 : Int32) (ls : Array Slot), ln - k < dd → (k ≤ ln) → (secF m_waySeconds m_seconds rw ln 0 0 = secF m_waySeconds m_seconds rw (ln - k) k s9) → lv_has ls 4 [(0, .ref h0), (1, .int s9), (2, .int (nI k))] → W p l e (headSpec wM_secondsOf (rmL 0 0 0)).room s m ([.ref h0] : List Value).toArray below meth c s.heap [] 0 0 (MQ below (vp_Si (fun r : Int32 => r = secF m_waySeconds m_seconds rw ln 0 0)) ([.ref h0] : List Value).toArray s 0 0 (fun _ => False)) (F0 m 4 ls []) := by
    intro dd
    induction dd with
    | zero =>
      intro k s9 ls hm
      exact absurd hm (Nat.not_lt_zero _)
    | succ dd ihLP4 =>
      intro k s9 ls hm hk hf hl
      refine lv_iload_n hx hb dM_secondsOf_4 rfl (lv_at hl 2 rfl) ?_
      refine lv_aload_n hx hb dM_secondsOf_5 rfl (lv_at hl 0 rfl) ?_
      refine va_get (D := D) (cl := rcl) (ci := 8) (v := .int (nI ln)) (C := NM) (T := TM) (N := 30) hx hb hts (fun w h => gw_t w (uwM w h)) hown hK hP 0 rfl rfl 21 (by decide) (hts _ (gw_t _ hw651)) (fun _ h9 => h9) rfl dM_secondsOf_6 ?_
      refine lv_icmp_ge (tgt := 76) hx hb dM_secondsOf_9 (by decide) (fun c9 => ?_) (fun c9 => ?_)
      · have c9 : ln ≤ k := (nI_leI (a := ln) (b := k) (by omega) (by omega)).mp c9
        refine lv_iload_n hx hb dM_secondsOf_76 rfl (lv_at hl 1 rfl) ?_
        exact W.iret (v := s9) hx hb hr (fun t ht9 hW9 => ⟨_, rfl, by rw [hf, show ln - k = 0 by omega]; rfl, ht9⟩) t_nil dM_secondsOf_77
      · have c9 : ¬ ln ≤ k := mt (nI_leI (a := ln) (b := k) (by omega) (by omega)).mpr c9
        refine lv_aload_n hx hb dM_secondsOf_12 rfl (lv_at hl 0 rfl) ?_
        refine va_get (D := D) (cl := rcl) (ci := 8) (v := .ref z_waySeconds) (C := NM) (T := TM) (N := 30) hx hb hts (fun w h => gw_t w (uwM w h)) hown hK hP 0 rfl rfl 3 (by decide) (hts _ (gw_t _ hw633)) (fun _ h9 => h9) rfl dM_secondsOf_13 ?_
        refine lv_bipush (v := 7) hx hb dM_secondsOf_16 (by decide) ?_
        refine lv_iload_n hx hb dM_secondsOf_18 rfl (lv_at hl 2 rfl) ?_
        refine lv_if_ne (tgt := 26) hx hb dM_secondsOf_19 (by decide) (fun c19 => ?_) (fun c19 => ?_)
        · have c19 : ¬ k = 0 := mt (nI_eq (a := k) (b := 0) (by omega) (by omega)).mpr c19
          refine lv_aload_n hx hb dM_secondsOf_26 rfl (lv_at hl 0 rfl) ?_
          refine va_get (D := D) (cl := rcl) (ci := 8) (v := .ref z_row) (C := NM) (T := TM) (N := 30) hx hb hts (fun w h => gw_t w (uwM w h)) hown hK hP 0 rfl rfl 20 (by decide) (hts _ (gw_t _ hw650)) (fun _ h9 => h9) rfl dM_secondsOf_27 ?_
          refine lv_iload_n hx hb dM_secondsOf_30 rfl (lv_at hl 2 rfl) ?_
          refine lv_iconst (v := 1) hx hb dM_secondsOf_31 (by decide) ?_
          refine lv_isub hx hb dM_secondsOf_32 ?_
          refine lc_i (y := nI (k - 1)) (pk_sub (a := k) (b := 1) (by omega)) ?_
          have hk5 := hrw (k - 1) (by omega)
          refine ra_i (k := k - 1) hx hb hK hP 12 0 rfl rfl (by omega) (by omega) dM_secondsOf_33 ?_
          refine lc_i (y := nI (rw (k - 1))) (rfl) ?_
          refine lv_iconst (v := 1) hx hb dM_secondsOf_34 (by decide) ?_
          refine lv_iadd hx hb dM_secondsOf_35 ?_
          refine lc_i (y := nI (rw (k - 1) + 1)) (nI_add (rw (k - 1)) 1) ?_
          refine lc_i (y := nI (frM rw k)) (by unfold frM; rw [if_neg (by omega)]) ?_
          refine lv_imul hx hb dM_secondsOf_36 ?_
          refine lc_i (y := nI (7 * frM rw k)) (pk_mul 7 (frM rw k)) ?_
          refine lv_aload_n hx hb dM_secondsOf_37 rfl (lv_at hl 0 rfl) ?_
          refine va_get (D := D) (cl := rcl) (ci := 8) (v := .ref z_row) (C := NM) (T := TM) (N := 30) hx hb hts (fun w h => gw_t w (uwM w h)) hown hK hP 0 rfl rfl 20 (by decide) (hts _ (gw_t _ hw650)) (fun _ h9 => h9) rfl dM_secondsOf_38 ?_
          refine lv_iload_n hx hb dM_secondsOf_41 rfl (lv_at hl 2 rfl) ?_
          have hk6 := hrw k (by omega)
          have hfr : frM rw k < 7 := frM_lt hrw (by omega)
          refine ra_i (k := k) hx hb hK hP 12 0 rfl rfl (by omega) (by omega) dM_secondsOf_42 ?_
          refine lc_i (y := nI (rw k)) (rfl) ?_
          refine lv_iadd hx hb dM_secondsOf_43 ?_
          refine lc_i (y := nI (7 * frM rw k + rw k)) (nI_add (7 * frM rw k) (rw k)) ?_
          refine lv_iconst (v := 1) hx hb dM_secondsOf_44 (by decide) ?_
          refine lv_iadd hx hb dM_secondsOf_45 ?_
          refine lc_i (y := nI (7 * frM rw k + rw k + 1)) (nI_add (7 * frM rw k + rw k) 1) ?_
          refine ra_i (k := 7 * frM rw k + rw k + 1) hx hb hK hP 3 0 rfl rfl (by omega) (by omega) dM_secondsOf_46 ?_
          refine lv_istore_n (lv' := [(3, .int (m_waySeconds (7 * frM rw k + rw k + 1))), (0, .ref h0), (1, .int s9), (2, .int (nI k))]) hx hb dM_secondsOf_47 rfl hl (by decide) rfl (fun ls hl => ?_)
          refine lv_iload_n hx hb dM_secondsOf_48 rfl (lv_at hl 0 rfl) ?_
          refine lv_if_ge (tgt := 54) hx hb dM_secondsOf_49 (by decide) (fun c49 => ?_) (fun c49 => ?_)
          · refine lv_iload_n hx hb dM_secondsOf_54 rfl (lv_at hl 2 rfl) ?_
            refine lv_iload_n hx hb dM_secondsOf_55 rfl (lv_at hl 0 rfl) ?_
            refine lv_aload_n hx hb dM_secondsOf_56 rfl (lv_at hl 1 rfl) ?_
            refine va_get (D := D) (cl := rcl) (ci := 8) (v := .ref z_seconds) (C := NM) (T := TM) (N := 30) hx hb hts (fun w h => gw_t w (uwM w h)) hown hK hP 0 rfl rfl 2 (by decide) (hts _ (gw_t _ hw632)) (fun _ h9 => h9) rfl dM_secondsOf_57 ?_
            refine lv_aload_n hx hb dM_secondsOf_60 rfl (lv_at hl 1 rfl) ?_
            refine va_get (D := D) (cl := rcl) (ci := 8) (v := .ref z_row) (C := NM) (T := TM) (N := 30) hx hb hts (fun w h => gw_t w (uwM w h)) hown hK hP 0 rfl rfl 20 (by decide) (hts _ (gw_t _ hw650)) (fun _ h9 => h9) rfl dM_secondsOf_61 ?_
            refine lv_iload_n hx hb dM_secondsOf_64 rfl (lv_at hl 3 rfl) ?_
            refine ra_i (k := k) hx hb hK hP 12 0 rfl rfl (by omega) (by omega) dM_secondsOf_65 ?_
            refine lc_i (y := nI (rw k)) (rfl) ?_
            refine ra_i (k := rw k) hx hb hK hP 2 0 rfl rfl (by omega) (by omega) dM_secondsOf_66 ?_
            refine lv_iadd hx hb dM_secondsOf_67 ?_
            refine lv_iadd hx hb dM_secondsOf_68 ?_
            refine lv_istore_n (lv' := [(1, .int (s9 + ((m_waySeconds (7 * frM rw k + rw k + 1)) + (m_seconds (rw k))))), (3, .int (m_waySeconds (7 * frM rw k + rw k + 1))), (0, .ref h0), (2, .int (nI k))]) hx hb dM_secondsOf_69 rfl hl (by decide) rfl (fun ls hl => ?_)
            refine lv_iinc (v := nI (k + 1)) (lv' := [(2, .int (nI (k + 1))), (1, .int (s9 + ((m_waySeconds (7 * frM rw k + rw k + 1)) + (m_seconds (rw k))))), (3, .int (m_waySeconds (7 * frM rw k + rw k + 1))), (0, .ref h0)]) hx hb dM_secondsOf_70 hl (k := 3) rfl (nI_add k 1) (by decide) rfl (fun ls hl => ?_)
            refine lv_goto (tgt := 4) hx hb dM_secondsOf_73 (by decide) ?_
            exact ihLP4 (k + 1) (s9 + ((m_waySeconds (7 * frM rw k + rw k + 1)) + (m_seconds (rw k)))) ls (by omega) (by omega) (by rw [hf, show ln - k = (ln - (k + 1)) + 1 by omega]; simp only [secF]; rw [if_neg (Int32.not_lt.mpr c49)]) (lv_sub hl [3, 1, 0] rfl)
          · refine lv_iconst (v := -1) hx hb dM_secondsOf_52 (by decide) ?_
            exact W.iret (v := (-1)) hx hb hr (fun t ht9 hW9 => ⟨_, rfl, by rw [hf, show ln - k = (ln - (k + 1)) + 1 by omega]; simp only [secF]; rw [if_pos (Int32.not_le.mp c49)], ht9⟩) t_nil dM_secondsOf_53
        · have c19 : k = 0 := (nI_eq (a := k) (b := 0) (by omega) (by omega)).mp c19
          refine lv_iconst (v := 0) hx hb dM_secondsOf_22 (by decide) ?_
          refine lv_goto (tgt := 36) hx hb dM_secondsOf_23 (by decide) ?_
          refine lc_i (y := nI (frM rw k)) (by unfold frM; rw [if_pos (by omega)]; rfl) ?_
          refine lv_imul hx hb dM_secondsOf_36 ?_
          refine lc_i (y := nI (7 * frM rw k)) (pk_mul 7 (frM rw k)) ?_
          refine lv_aload_n hx hb dM_secondsOf_37 rfl (lv_at hl 0 rfl) ?_
          refine va_get (D := D) (cl := rcl) (ci := 8) (v := .ref z_row) (C := NM) (T := TM) (N := 30) hx hb hts (fun w h => gw_t w (uwM w h)) hown hK hP 0 rfl rfl 20 (by decide) (hts _ (gw_t _ hw650)) (fun _ h9 => h9) rfl dM_secondsOf_38 ?_
          refine lv_iload_n hx hb dM_secondsOf_41 rfl (lv_at hl 2 rfl) ?_
          have hk6 := hrw k (by omega)
          have hfr : frM rw k < 7 := frM_lt hrw (by omega)
          refine ra_i (k := k) hx hb hK hP 12 0 rfl rfl (by omega) (by omega) dM_secondsOf_42 ?_
          refine lc_i (y := nI (rw k)) (rfl) ?_
          refine lv_iadd hx hb dM_secondsOf_43 ?_
          refine lc_i (y := nI (7 * frM rw k + rw k)) (nI_add (7 * frM rw k) (rw k)) ?_
          refine lv_iconst (v := 1) hx hb dM_secondsOf_44 (by decide) ?_
          refine lv_iadd hx hb dM_secondsOf_45 ?_
          refine lc_i (y := nI (7 * frM rw k + rw k + 1)) (nI_add (7 * frM rw k + rw k) 1) ?_
          refine ra_i (k := 7 * frM rw k + rw k + 1) hx hb hK hP 3 0 rfl rfl (by omega) (by omega) dM_secondsOf_46 ?_
          refine lv_istore_n (lv' := [(3, .int (m_waySeconds (7 * frM rw k + rw k + 1))), (0, .ref h0), (1, .int s9), (2, .int (nI k))]) hx hb dM_secondsOf_47 rfl hl (by decide) rfl (fun ls hl => ?_)
          refine lv_iload_n hx hb dM_secondsOf_48 rfl (lv_at hl 0 rfl) ?_
          refine lv_if_ge (tgt := 54) hx hb dM_secondsOf_49 (by decide) (fun c49 => ?_) (fun c49 => ?_)
          · refine lv_iload_n hx hb dM_secondsOf_54 rfl (lv_at hl 2 rfl) ?_
            refine lv_iload_n hx hb dM_secondsOf_55 rfl (lv_at hl 0 rfl) ?_
            refine lv_aload_n hx hb dM_secondsOf_56 rfl (lv_at hl 1 rfl) ?_
            refine va_get (D := D) (cl := rcl) (ci := 8) (v := .ref z_seconds) (C := NM) (T := TM) (N := 30) hx hb hts (fun w h => gw_t w (uwM w h)) hown hK hP 0 rfl rfl 2 (by decide) (hts _ (gw_t _ hw632)) (fun _ h9 => h9) rfl dM_secondsOf_57 ?_
            refine lv_aload_n hx hb dM_secondsOf_60 rfl (lv_at hl 1 rfl) ?_
            refine va_get (D := D) (cl := rcl) (ci := 8) (v := .ref z_row) (C := NM) (T := TM) (N := 30) hx hb hts (fun w h => gw_t w (uwM w h)) hown hK hP 0 rfl rfl 20 (by decide) (hts _ (gw_t _ hw650)) (fun _ h9 => h9) rfl dM_secondsOf_61 ?_
            refine lv_iload_n hx hb dM_secondsOf_64 rfl (lv_at hl 3 rfl) ?_
            refine ra_i (k := k) hx hb hK hP 12 0 rfl rfl (by omega) (by omega) dM_secondsOf_65 ?_
            refine lc_i (y := nI (rw k)) (rfl) ?_
            refine ra_i (k := rw k) hx hb hK hP 2 0 rfl rfl (by omega) (by omega) dM_secondsOf_66 ?_
            refine lv_iadd hx hb dM_secondsOf_67 ?_
            refine lv_iadd hx hb dM_secondsOf_68 ?_
            refine lv_istore_n (lv' := [(1, .int (s9 + ((m_waySeconds (7 * frM rw k + rw k + 1)) + (m_seconds (rw k))))), (3, .int (m_waySeconds (7 * frM rw k + rw k + 1))), (0, .ref h0), (2, .int (nI k))]) hx hb dM_secondsOf_69 rfl hl (by decide) rfl (fun ls hl => ?_)
            refine lv_iinc (v := nI (k + 1)) (lv' := [(2, .int (nI (k + 1))), (1, .int (s9 + ((m_waySeconds (7 * frM rw k + rw k + 1)) + (m_seconds (rw k))))), (3, .int (m_waySeconds (7 * frM rw k + rw k + 1))), (0, .ref h0)]) hx hb dM_secondsOf_70 hl (k := 3) rfl (nI_add k 1) (by decide) rfl (fun ls hl => ?_)
            refine lv_goto (tgt := 4) hx hb dM_secondsOf_73 (by decide) ?_
            exact ihLP4 (k + 1) (s9 + ((m_waySeconds (7 * frM rw k + rw k + 1)) + (m_seconds (rw k)))) ls (by omega) (by omega) (by rw [hf, show ln - k = (ln - (k + 1)) + 1 by omega]; simp only [secF]; rw [if_neg (Int32.not_lt.mpr c49)]) (lv_sub hl [3, 1, 0] rfl)
          · refine lv_iconst (v := -1) hx hb dM_secondsOf_52 (by decide) ?_
            exact W.iret (v := (-1)) hx hb hr (fun t ht9 hW9 => ⟨_, rfl, by rw [hf, show ln - k = (ln - (k + 1)) + 1 by omega]; simp only [secF]; rw [if_pos (Int32.not_le.mp c49)], ht9⟩) t_nil dM_secondsOf_53
  refine lv_iconst (v := 0) hx hb dM_secondsOf_0 (by decide) ?_
  refine lv_istore_n (lv' := [(1, .int 0), (0, .ref h0)]) hx hb dM_secondsOf_1 rfl hl (by decide) rfl (fun ls hl => ?_)
  refine lv_iconst (v := 0) hx hb dM_secondsOf_2 (by decide) ?_
  refine lv_istore_n (lv' := [(2, .int 0), (1, .int 0), (0, .ref h0)]) hx hb dM_secondsOf_3 rfl hl (by decide) rfl (fun ls hl => ?_)
  exact LP4 _ 0 0 ls (Nat.lt_succ_self _) (by omega) (by rw [Nat.sub_zero]) (lv_sub hl [2, 1, 0] rfl)

set_option maxHeartbeats 4000000 in
set_option maxRecDepth 100000 in
theorem cM_isRow (l : Launch) (D : va_G) (kI kJ kZ kG kH : ClassId) (h0 : Nat) (z_kilograms : Nat) (z_seconds : Nat) (z_waySeconds : Nat) (z_wayCosts : Nat) (z_pairs : Nat) (z_foundKilograms : Nat) (z_rows : Nat) (z_rounds : Nat) (z_costs : Nat) (z_lists : Nat) (z_barred : Nat) (z_row : Nat) (z_newRows : Nat) (z_newRounds : Nat) (z_newCosts : Nat) (z_newLists : Nat) (z_over : Nat) (z_under : Nat) (z_based : Nat) (z_open : Nat) (m_bins : Nat) (m_kilograms : Nat → Int32) (m_seconds : Nat → Int32) (m_waySeconds : Nat → Int32) (m_wayCosts : Nat → Int32) (m_load : Int32) (m_time : Int32) (m_vehicles : Int32) (m_pairs : Nat → Int32) (m_isFound : Int32) (m_foundBins : Int32) (m_foundLoad : Int32) (m_foundVehicles : Int32) (m_foundKilograms : Nat → Int32) (m_rows : Nat → Int32) (m_rounds : Nat → Int32) (m_costs : Nat → Int32) (m_lists : Nat → Int32) (m_barred : Nat → Int32) (m_fault : Int32) (m_newRows : Nat → Int32) (m_newRounds : Nat → Int32) (m_newCosts : Nat → Int32) (m_newLists : Nat → Int32) (m_over : Nat → Int64) (m_under : Nat → Int64) (m_based : Nat → Int32) (m_open : Nat → Int32) (rw : Nat → Nat) (ln : Nat) (hln : ln ≤ 6) (hrw : ∀ j, j < 6 → rw j < 6) : Met l yM_isRow wM_isRow (rmL 1 0 0) (va_Pc [.ref h0] (fun U => wd D kI kJ kZ kG kH [(h0, .inr (8, [.int (nI m_bins), .ref z_kilograms, .ref z_seconds, .ref z_waySeconds, .ref z_wayCosts, .int m_load, .int m_time, .int m_vehicles, .ref z_pairs, .int m_isFound, .int m_foundBins, .int m_foundLoad, .int m_foundVehicles, .ref z_foundKilograms, .ref z_rows, .ref z_rounds, .ref z_costs, .ref z_lists, .ref z_barred, .int m_fault, .ref z_row, .int (nI ln), .ref z_newRows, .ref z_newRounds, .ref z_newCosts, .ref z_newLists, .ref z_over, .ref z_under, .ref z_based, .ref z_open])), (z_kilograms, .inl (kI, 6, .inl m_kilograms)), (z_seconds, .inl (kI, 6, .inl m_seconds)), (z_waySeconds, .inl (kI, 49, .inl m_waySeconds)), (z_wayCosts, .inl (kI, 49, .inl m_wayCosts)), (z_pairs, .inl (kI, 36, .inl m_pairs)), (z_foundKilograms, .inl (kI, 6, .inl m_foundKilograms)), (z_rows, .inl (kZ, 384, .inl m_rows)), (z_rounds, .inl (kZ, 384, .inl m_rounds)), (z_costs, .inl (kI, 64, .inl m_costs)), (z_lists, .inl (kI, 384, .inl m_lists)), (z_barred, .inl (kZ, 64, .inl m_barred)), (z_row, .inl (kI, 6, .inl (bsI rw))), (z_newRows, .inl (kZ, 384, .inl m_newRows)), (z_newRounds, .inl (kZ, 384, .inl m_newRounds)), (z_newCosts, .inl (kI, 64, .inl m_newCosts)), (z_newLists, .inl (kI, 384, .inl m_newLists)), (z_over, .inl (kJ, 576, .inr (.inl m_over))), (z_under, .inl (kJ, 576, .inr (.inl m_under))), (z_based, .inl (kI, 7, .inl m_based)), (z_open, .inl (kZ, 64, .inl m_open))] U)) (vp_Si (fun r : Int32 => r = if rowB m_kilograms m_waySeconds m_seconds m_load m_time rw ln then 1 else 0)) 0 0 (fun _ => False) := by
  refine Met.ofW (cc := bM_isRow) (maxL := 3) (ret := (some .boolean)) (by decide) rfl ?_
  intro p e s m args below meth c s₁ B hml hv
  obtain ⟨rfl, hP, hK, hN⟩ := hv
  have hx := B.exec
  have hb := B.bytes
  have hr := B.returns
  have hts := atoms_spec (ws := wM_isRow) B.pre
  have hown : s.vm.findClass NM = some m.cls := findClass_of_methodNamed B.named
  have hlocks := B.notSynchronized
  have hl := lv_entry ([.ref h0]) (n := 3) (Nat.le_of_ble_eq_true rfl)
  rw [lg_entry_eq]
  generalize (lg_sl ([.ref h0]) ++ List.replicate (3 - (lg_sl ([.ref h0])).length) Slot.unset).toArray = ls at hl ⊢
  have hl : lv_has ls 3 [(0, .ref h0)] := hl
  have LP4 : ∀ (dd : Nat) (k : Nat) (ls : Array Slot), ln - k < dd → (k ≤ ln) → lv_has ls 3 [(0, .ref h0), (1, .int (kilF m_kilograms rw k)), (2, .int (nI k))] → W p l e (headSpec wM_isRow (rmL 1 0 0)).room s m ([.ref h0] : List Value).toArray below meth c s.heap [] 0 0 (MQ below (vp_Si (fun r : Int32 => r = if rowB m_kilograms m_waySeconds m_seconds m_load m_time rw ln then 1 else 0)) ([.ref h0] : List Value).toArray s 0 0 (fun _ => False)) (F0 m 4 ls []) := by
    intro dd
    induction dd with
    | zero =>
      intro k ls hm
      exact absurd hm (Nat.not_lt_zero _)
    | succ dd ihLP4 =>
      intro k ls hm hk hl
      refine lv_iload_n hx hb dM_isRow_4 rfl (lv_at hl 2 rfl) ?_
      refine lv_aload_n hx hb dM_isRow_5 rfl (lv_at hl 0 rfl) ?_
      refine va_get (D := D) (cl := rcl) (ci := 8) (v := .int (nI ln)) (C := NM) (T := TM) (N := 30) hx hb hts (fun w h => gw_t w (uwM w h)) hown hK hP 0 rfl rfl 21 (by decide) (hts _ (gw_t _ hw651)) (fun _ h9 => h9) rfl dM_isRow_6 ?_
      refine lv_icmp_ge (tgt := 32) hx hb dM_isRow_9 (by decide) (fun c9 => ?_) (fun c9 => ?_)
      · have c9 : ln ≤ k := (nI_leI (a := ln) (b := k) (by omega) (by omega)).mp c9
        refine lv_aload_n hx hb dM_isRow_32 rfl (lv_at hl 0 rfl) ?_
        refine vp_callSi (W.runV (C := NM) (As := []) (rest := []) ⟨hx, hb, hml, hown, hts⟩ (cM_secondsOf l D kI kJ kZ kG kH h0 z_kilograms z_seconds z_waySeconds z_wayCosts z_pairs z_foundKilograms z_rows z_rounds z_costs z_lists z_barred z_row z_newRows z_newRounds z_newCosts z_newLists z_over z_under z_based z_open m_bins m_kilograms m_seconds m_waySeconds m_wayCosts m_load m_time m_vehicles m_pairs m_isFound m_foundBins m_foundLoad m_foundVehicles m_foundKilograms m_rows m_rounds m_costs m_lists m_barred m_fault m_newRows m_newRounds m_newCosts m_newLists m_over m_under m_based m_open rw ln hln hrw) ⟨cB 0 hts hw775 hw8 hw772 (by decide +kernel) ⟨Nat.le_of_ble_eq_true rfl, Nat.le_of_ble_eq_true rfl⟩ rfl rfl, hts _ (gw_t _ hw774), hts _ (gw_t _ hs24)⟩ ⟨fun a U g mk q => ⟨q.1, q.2.calling g mk a⟩, va_recv hK hP (ci := 8) (q0 := 0) rfl rfl, fun U hU hW => ⟨rfl, wd.use hP hK hN hU hW⟩⟩ rfl rfl hl.1 rfl (lv_room (Nat.le_of_ble_eq_true rfl)) dM_isRow_33 ⟨Nat.le_of_ble_eq_true rfl, Nat.le_of_ble_eq_true rfl⟩) (fun r33 hr33 => ?_)
        subst hr33
        refine lv_istore_n (lv' := [(2, .int (secF m_waySeconds m_seconds rw ln 0 0)), (0, .ref h0), (1, .int (kilF m_kilograms rw k))]) hx hb dM_isRow_36 rfl hl (by decide) rfl (fun ls hl => ?_)
        refine lv_iload_n hx hb dM_isRow_37 rfl (lv_at hl 2 rfl) ?_
        refine lv_aload_n hx hb dM_isRow_38 rfl (lv_at hl 1 rfl) ?_
        refine va_get (D := D) (cl := rcl) (ci := 8) (v := .int m_load) (C := NM) (T := TM) (N := 30) hx hb hts (fun w h => gw_t w (uwM w h)) hown hK hP 0 rfl rfl 5 (by decide) (hts _ (gw_t _ hw635)) (fun _ h9 => h9) rfl dM_isRow_39 ?_
        refine lv_icmp_gt (tgt := 61) hx hb dM_isRow_42 (by decide) (fun c42 => ?_) (fun c42 => ?_)
        · refine lv_iconst (v := 0) hx hb dM_isRow_61 (by decide) ?_
          exact W.zret (v := 0) (ty := .boolean) hx hb hr (by decide) (fun t ht9 hW9 => ⟨_, rfl, by rw [show k = ln by omega] at c42; rw [if_neg (fun q : rowB m_kilograms m_waySeconds m_seconds m_load m_time rw ln => absurd c42 (Int32.not_lt.mpr q.1))], ht9⟩) t_nil dM_isRow_62
        · refine lv_iload_n hx hb dM_isRow_45 rfl (lv_at hl 0 rfl) ?_
          refine lv_if_lt (tgt := 61) hx hb dM_isRow_46 (by decide) (fun c46 => ?_) (fun c46 => ?_)
          · refine lv_iconst (v := 0) hx hb dM_isRow_61 (by decide) ?_
            exact W.zret (v := 0) (ty := .boolean) hx hb hr (by decide) (fun t ht9 hW9 => ⟨_, rfl, by rw [if_neg (fun q : rowB m_kilograms m_waySeconds m_seconds m_load m_time rw ln => absurd c46 (Int32.not_lt.mpr q.2.1))], ht9⟩) t_nil dM_isRow_62
          · refine lv_iload_n hx hb dM_isRow_49 rfl (lv_at hl 0 rfl) ?_
            refine lv_aload_n hx hb dM_isRow_50 rfl (lv_at hl 1 rfl) ?_
            refine va_get (D := D) (cl := rcl) (ci := 8) (v := .int m_time) (C := NM) (T := TM) (N := 30) hx hb hts (fun w h => gw_t w (uwM w h)) hown hK hP 0 rfl rfl 6 (by decide) (hts _ (gw_t _ hw636)) (fun _ h9 => h9) rfl dM_isRow_51 ?_
            refine lv_icmp_gt (tgt := 61) hx hb dM_isRow_54 (by decide) (fun c54 => ?_) (fun c54 => ?_)
            · refine lv_iconst (v := 0) hx hb dM_isRow_61 (by decide) ?_
              exact W.zret (v := 0) (ty := .boolean) hx hb hr (by decide) (fun t ht9 hW9 => ⟨_, rfl, by rw [if_neg (fun q : rowB m_kilograms m_waySeconds m_seconds m_load m_time rw ln => absurd c54 (Int32.not_lt.mpr q.2.2))], ht9⟩) t_nil dM_isRow_62
            · refine lv_iconst (v := 1) hx hb dM_isRow_57 (by decide) ?_
              refine lv_goto (tgt := 62) hx hb dM_isRow_58 (by decide) ?_
              exact W.zret (v := 1) (ty := .boolean) hx hb hr (by decide) (fun t ht9 hW9 => ⟨_, rfl, by rw [show k = ln by omega] at c42; rw [if_pos (show rowB m_kilograms m_waySeconds m_seconds m_load m_time rw ln from ⟨Int32.not_lt.mp c42, Int32.not_lt.mp c46, Int32.not_lt.mp c54⟩)], ht9⟩) t_nil dM_isRow_62
      · have c9 : ¬ ln ≤ k := mt (nI_leI (a := ln) (b := k) (by omega) (by omega)).mpr c9
        refine lv_iload_n hx hb dM_isRow_12 rfl (lv_at hl 1 rfl) ?_
        refine lv_aload_n hx hb dM_isRow_13 rfl (lv_at hl 0 rfl) ?_
        refine va_get (D := D) (cl := rcl) (ci := 8) (v := .ref z_kilograms) (C := NM) (T := TM) (N := 30) hx hb hts (fun w h => gw_t w (uwM w h)) hown hK hP 0 rfl rfl 1 (by decide) (hts _ (gw_t _ hw631)) (fun _ h9 => h9) rfl dM_isRow_14 ?_
        refine lv_aload_n hx hb dM_isRow_17 rfl (lv_at hl 0 rfl) ?_
        refine va_get (D := D) (cl := rcl) (ci := 8) (v := .ref z_row) (C := NM) (T := TM) (N := 30) hx hb hts (fun w h => gw_t w (uwM w h)) hown hK hP 0 rfl rfl 20 (by decide) (hts _ (gw_t _ hw650)) (fun _ h9 => h9) rfl dM_isRow_18 ?_
        refine lv_iload_n hx hb dM_isRow_21 rfl (lv_at hl 2 rfl) ?_
        have hk6 := hrw k (by omega)
        refine ra_i (k := k) hx hb hK hP 12 0 rfl rfl (by omega) (by omega) dM_isRow_22 ?_
        refine lc_i (y := nI (rw k)) (rfl) ?_
        refine ra_i (k := rw k) hx hb hK hP 1 0 rfl rfl (by omega) (by omega) dM_isRow_23 ?_
        refine lv_iadd hx hb dM_isRow_24 ?_
        refine lc_i (y := kilF m_kilograms rw (k + 1)) (rfl) ?_
        refine lv_istore_n (lv' := [(1, .int (kilF m_kilograms rw (k + 1))), (0, .ref h0), (2, .int (nI k))]) hx hb dM_isRow_25 rfl hl (by decide) rfl (fun ls hl => ?_)
        refine lv_iinc (v := nI (k + 1)) (lv' := [(2, .int (nI (k + 1))), (1, .int (kilF m_kilograms rw (k + 1))), (0, .ref h0)]) hx hb dM_isRow_26 hl (k := 2) rfl (nI_add k 1) (by decide) rfl (fun ls hl => ?_)
        refine lv_goto (tgt := 4) hx hb dM_isRow_29 (by decide) ?_
        exact ihLP4 (k + 1) ls (by omega) (by omega) (lv_sub hl [2, 1, 0] rfl)
  refine lv_iconst (v := 0) hx hb dM_isRow_0 (by decide) ?_
  refine lc_i (y := kilF m_kilograms rw 0) rfl ?_
  refine lv_istore_n (lv' := [(1, .int (kilF m_kilograms rw 0)), (0, .ref h0)]) hx hb dM_isRow_1 rfl hl (by decide) rfl (fun ls hl => ?_)
  refine lv_iconst (v := 0) hx hb dM_isRow_2 (by decide) ?_
  refine lv_istore_n (lv' := [(2, .int 0), (1, .int (kilF m_kilograms rw 0)), (0, .ref h0)]) hx hb dM_isRow_3 rfl hl (by decide) rfl (fun ls hl => ?_)
  exact LP4 _ 0 ls (Nat.lt_succ_self _) (by omega) (lv_sub hl [2, 1, 0] rfl)

set_option maxHeartbeats 4000000 in
set_option maxRecDepth 100000 in
theorem cM_isRound (l : Launch) (D : va_G) (kI kJ kZ kG kH : ClassId) (h0 : Nat) (z_kilograms : Nat) (z_seconds : Nat) (z_waySeconds : Nat) (z_wayCosts : Nat) (z_pairs : Nat) (z_foundKilograms : Nat) (z_rows : Nat) (z_rounds : Nat) (z_costs : Nat) (z_lists : Nat) (z_barred : Nat) (z_row : Nat) (z_newRows : Nat) (z_newRounds : Nat) (z_newCosts : Nat) (z_newLists : Nat) (z_over : Nat) (z_under : Nat) (z_based : Nat) (z_open : Nat) (m_bins : Nat) (m_kilograms : Nat → Int32) (m_seconds : Nat → Int32) (m_waySeconds : Nat → Int32) (m_wayCosts : Nat → Int32) (m_load : Int32) (m_time : Int32) (m_vehicles : Int32) (m_pairs : Nat → Int32) (m_isFound : Int32) (m_foundBins : Int32) (m_foundLoad : Int32) (m_foundVehicles : Int32) (m_foundKilograms : Nat → Int32) (m_rows : Nat → Int32) (m_rounds : Nat → Int32) (m_costs : Nat → Int32) (m_lists : Nat → Int32) (m_barred : Nat → Int32) (m_fault : Int32) (m_newRows : Nat → Int32) (m_newRounds : Nat → Int32) (m_newCosts : Nat → Int32) (m_newLists : Nat → Int32) (m_over : Nat → Int64) (m_under : Nat → Int64) (m_based : Nat → Int32) (m_open : Nat → Int32) (rw : Nat → Nat) (ln : Nat) (hl1 : 1 ≤ ln) (hln : ln ≤ 6) (hrw : ∀ j, j < 6 → rw j < 6) : Met l yM_isRound wM_isRound (rmL 2 0 0) (va_Pc [.ref h0] (fun U => wd D kI kJ kZ kG kH [(h0, .inr (8, [.int (nI m_bins), .ref z_kilograms, .ref z_seconds, .ref z_waySeconds, .ref z_wayCosts, .int m_load, .int m_time, .int m_vehicles, .ref z_pairs, .int m_isFound, .int m_foundBins, .int m_foundLoad, .int m_foundVehicles, .ref z_foundKilograms, .ref z_rows, .ref z_rounds, .ref z_costs, .ref z_lists, .ref z_barred, .int m_fault, .ref z_row, .int (nI ln), .ref z_newRows, .ref z_newRounds, .ref z_newCosts, .ref z_newLists, .ref z_over, .ref z_under, .ref z_based, .ref z_open])), (z_kilograms, .inl (kI, 6, .inl m_kilograms)), (z_seconds, .inl (kI, 6, .inl m_seconds)), (z_waySeconds, .inl (kI, 49, .inl m_waySeconds)), (z_wayCosts, .inl (kI, 49, .inl m_wayCosts)), (z_pairs, .inl (kI, 36, .inl m_pairs)), (z_foundKilograms, .inl (kI, 6, .inl m_foundKilograms)), (z_rows, .inl (kZ, 384, .inl m_rows)), (z_rounds, .inl (kZ, 384, .inl m_rounds)), (z_costs, .inl (kI, 64, .inl m_costs)), (z_lists, .inl (kI, 384, .inl m_lists)), (z_barred, .inl (kZ, 64, .inl m_barred)), (z_row, .inl (kI, 6, .inl (bsI rw))), (z_newRows, .inl (kZ, 384, .inl m_newRows)), (z_newRounds, .inl (kZ, 384, .inl m_newRounds)), (z_newCosts, .inl (kI, 64, .inl m_newCosts)), (z_newLists, .inl (kI, 384, .inl m_newLists)), (z_over, .inl (kJ, 576, .inr (.inl m_over))), (z_under, .inl (kJ, 576, .inr (.inl m_under))), (z_based, .inl (kI, 7, .inl m_based)), (z_open, .inl (kZ, 64, .inl m_open))] U)) (vp_Si (fun r : Int32 => r = if rndB m_kilograms m_waySeconds m_seconds m_load m_time rw ln then 1 else 0)) 0 0 (fun _ => False) := by
  refine Met.ofW (cc := bM_isRound) (maxL := 2) (ret := (some .boolean)) (by decide) rfl ?_
  intro p e s m args below meth c s₁ B hml hv
  obtain ⟨rfl, hP, hK, hN⟩ := hv
  have hx := B.exec
  have hb := B.bytes
  have hr := B.returns
  have hts := atoms_spec (ws := wM_isRound) B.pre
  have hown : s.vm.findClass NM = some m.cls := findClass_of_methodNamed B.named
  have hlocks := B.notSynchronized
  have hl := lv_entry ([.ref h0]) (n := 2) (Nat.le_of_ble_eq_true rfl)
  rw [lg_entry_eq]
  generalize (lg_sl ([.ref h0]) ++ List.replicate (2 - (lg_sl ([.ref h0])).length) Slot.unset).toArray = ls at hl ⊢
  have hl : lv_has ls 2 [(0, .ref h0)] := hl
  refine lv_aload_n hx hb dM_isRound_0 rfl (lv_at hl 0 rfl) ?_
  refine va_get (D := D) (cl := rcl) (ci := 8) (v := .ref z_waySeconds) (C := NM) (T := TM) (N := 30) hx hb hts (fun w h => gw_t w (uwM w h)) hown hK hP 0 rfl rfl 3 (by decide) (hts _ (gw_t _ hw633)) (fun _ h9 => h9) rfl dM_isRound_1 ?_
  refine lv_bipush (v := 7) hx hb dM_isRound_4 (by decide) ?_
  refine lv_aload_n hx hb dM_isRound_6 rfl (lv_at hl 0 rfl) ?_
  refine va_get (D := D) (cl := rcl) (ci := 8) (v := .ref z_row) (C := NM) (T := TM) (N := 30) hx hb hts (fun w h => gw_t w (uwM w h)) hown hK hP 0 rfl rfl 20 (by decide) (hts _ (gw_t _ hw650)) (fun _ h9 => h9) rfl dM_isRound_7 ?_
  refine lv_aload_n hx hb dM_isRound_10 rfl (lv_at hl 0 rfl) ?_
  refine va_get (D := D) (cl := rcl) (ci := 8) (v := .int (nI ln)) (C := NM) (T := TM) (N := 30) hx hb hts (fun w h => gw_t w (uwM w h)) hown hK hP 0 rfl rfl 21 (by decide) (hts _ (gw_t _ hw651)) (fun _ h9 => h9) rfl dM_isRound_11 ?_
  refine lv_iconst (v := 1) hx hb dM_isRound_14 (by decide) ?_
  refine lv_isub hx hb dM_isRound_15 ?_
  refine lc_i (y := nI (ln - 1)) (pk_sub (a := ln) (b := 1) (by omega)) ?_
  have hk6 := hrw (ln - 1) (by omega)
  refine ra_i (k := ln - 1) hx hb hK hP 12 0 rfl rfl (by omega) (by omega) dM_isRound_16 ?_
  refine lc_i (y := nI (rw (ln - 1))) (rfl) ?_
  refine lv_iconst (v := 1) hx hb dM_isRound_17 (by decide) ?_
  refine lv_iadd hx hb dM_isRound_18 ?_
  refine lc_i (y := nI (rw (ln - 1) + 1)) (nI_add (rw (ln - 1)) 1) ?_
  refine lv_imul hx hb dM_isRound_19 ?_
  refine lc_i (y := nI (7 * (rw (ln - 1) + 1))) (pk_mul 7 (rw (ln - 1) + 1)) ?_
  refine ra_i (k := 7 * (rw (ln - 1) + 1)) hx hb hK hP 3 0 rfl rfl (by omega) (by omega) dM_isRound_20 ?_
  refine lv_istore_n (lv' := [(1, .int (m_waySeconds (7 * (rw (ln - 1) + 1)))), (0, .ref h0)]) hx hb dM_isRound_21 rfl hl (by decide) rfl (fun ls hl => ?_)
  refine lv_aload_n hx hb dM_isRound_22 rfl (lv_at hl 1 rfl) ?_
  refine vp_callSi (W.runV (C := NM) (As := []) (rest := []) ⟨hx, hb, hml, hown, hts⟩ (cM_isRow l D kI kJ kZ kG kH h0 z_kilograms z_seconds z_waySeconds z_wayCosts z_pairs z_foundKilograms z_rows z_rounds z_costs z_lists z_barred z_row z_newRows z_newRounds z_newCosts z_newLists z_over z_under z_based z_open m_bins m_kilograms m_seconds m_waySeconds m_wayCosts m_load m_time m_vehicles m_pairs m_isFound m_foundBins m_foundLoad m_foundVehicles m_foundKilograms m_rows m_rounds m_costs m_lists m_barred m_fault m_newRows m_newRounds m_newCosts m_newLists m_over m_under m_based m_open rw ln hln hrw) ⟨cB 0 hts hw771 hw8 hw768 (by decide +kernel) ⟨Nat.le_of_ble_eq_true rfl, Nat.le_of_ble_eq_true rfl⟩ rfl rfl, hts _ (gw_t _ hw770), hts _ (gw_t _ hs23)⟩ ⟨fun a U g mk q => ⟨q.1, q.2.calling g mk a⟩, va_recv hK hP (ci := 8) (q0 := 0) rfl rfl, fun U hU hW => ⟨rfl, wd.use hP hK hN hU hW⟩⟩ rfl rfl hl.1 rfl (lv_room (Nat.le_of_ble_eq_true rfl)) dM_isRound_23 ⟨Nat.le_of_ble_eq_true rfl, Nat.le_of_ble_eq_true rfl⟩) (fun r23 hr23 => ?_)
  refine lv_if_eq (tgt := 50) hx hb dM_isRound_26 (by decide) (fun c26 => ?_) (fun c26 => ?_)
  · have w26 := w_f hr23 c26
    refine lv_iconst (v := 0) hx hb dM_isRound_50 (by decide) ?_
    exact W.zret (v := 0) (ty := .boolean) hx hb hr (by decide) (fun t ht9 hW9 => ⟨_, rfl, by rw [if_neg (fun q : rndB m_kilograms m_waySeconds m_seconds m_load m_time rw ln => absurd q.1 w26)], ht9⟩) t_nil dM_isRound_51
  · have w26 := w_t hr23 c26
    refine lv_iload_n hx hb dM_isRound_29 rfl (lv_at hl 0 rfl) ?_
    refine lv_if_lt (tgt := 50) hx hb dM_isRound_30 (by decide) (fun c30 => ?_) (fun c30 => ?_)
    · refine lv_iconst (v := 0) hx hb dM_isRound_50 (by decide) ?_
      exact W.zret (v := 0) (ty := .boolean) hx hb hr (by decide) (fun t ht9 hW9 => ⟨_, rfl, by rw [if_neg (fun q : rndB m_kilograms m_waySeconds m_seconds m_load m_time rw ln => absurd c30 (Int32.not_lt.mpr q.2.1))], ht9⟩) t_nil dM_isRound_51
    · refine lv_aload_n hx hb dM_isRound_33 rfl (lv_at hl 1 rfl) ?_
      refine vp_callSi (W.runV (C := NM) (As := []) (rest := []) ⟨hx, hb, hml, hown, hts⟩ (cM_secondsOf l D kI kJ kZ kG kH h0 z_kilograms z_seconds z_waySeconds z_wayCosts z_pairs z_foundKilograms z_rows z_rounds z_costs z_lists z_barred z_row z_newRows z_newRounds z_newCosts z_newLists z_over z_under z_based z_open m_bins m_kilograms m_seconds m_waySeconds m_wayCosts m_load m_time m_vehicles m_pairs m_isFound m_foundBins m_foundLoad m_foundVehicles m_foundKilograms m_rows m_rounds m_costs m_lists m_barred m_fault m_newRows m_newRounds m_newCosts m_newLists m_over m_under m_based m_open rw ln hln hrw) ⟨cB 0 hts hw775 hw8 hw772 (by decide +kernel) ⟨Nat.le_of_ble_eq_true rfl, Nat.le_of_ble_eq_true rfl⟩ rfl rfl, hts _ (gw_t _ hw774), hts _ (gw_t _ hs24)⟩ ⟨fun a U g mk q => ⟨q.1, q.2.calling g mk a⟩, va_recv hK hP (ci := 8) (q0 := 0) rfl rfl, fun U hU hW => ⟨rfl, wd.use hP hK hN hU hW⟩⟩ rfl rfl hl.1 rfl (lv_room (Nat.le_of_ble_eq_true rfl)) dM_isRound_34 ⟨Nat.le_of_ble_eq_true rfl, Nat.le_of_ble_eq_true rfl⟩) (fun r34 hr34 => ?_)
      subst hr34
      refine lv_iload_n hx hb dM_isRound_37 rfl (lv_at hl 0 rfl) ?_
      refine lv_iadd hx hb dM_isRound_38 ?_
      refine lv_aload_n hx hb dM_isRound_39 rfl (lv_at hl 1 rfl) ?_
      refine va_get (D := D) (cl := rcl) (ci := 8) (v := .int m_time) (C := NM) (T := TM) (N := 30) hx hb hts (fun w h => gw_t w (uwM w h)) hown hK hP 0 rfl rfl 6 (by decide) (hts _ (gw_t _ hw636)) (fun _ h9 => h9) rfl dM_isRound_40 ?_
      refine lv_icmp_gt (tgt := 50) hx hb dM_isRound_43 (by decide) (fun c43 => ?_) (fun c43 => ?_)
      · refine lv_iconst (v := 0) hx hb dM_isRound_50 (by decide) ?_
        exact W.zret (v := 0) (ty := .boolean) hx hb hr (by decide) (fun t ht9 hW9 => ⟨_, rfl, by rw [if_neg (fun q : rndB m_kilograms m_waySeconds m_seconds m_load m_time rw ln => absurd c43 (Int32.not_lt.mpr q.2.2))], ht9⟩) t_nil dM_isRound_51
      · refine lv_iconst (v := 1) hx hb dM_isRound_46 (by decide) ?_
        refine lv_goto (tgt := 51) hx hb dM_isRound_47 (by decide) ?_
        exact W.zret (v := 1) (ty := .boolean) hx hb hr (by decide) (fun t ht9 hW9 => ⟨_, rfl, by rw [if_pos (show rndB m_kilograms m_waySeconds m_seconds m_load m_time rw ln from ⟨w26, Int32.not_lt.mp c30, Int32.not_lt.mp c43⟩)], ht9⟩) t_nil dM_isRound_51

set_option maxHeartbeats 4000000 in
set_option maxRecDepth 100000 in
theorem cM_costOf (l : Launch) (D : va_G) (kI kJ kZ kG kH : ClassId) (h0 : Nat) (z_kilograms : Nat) (z_seconds : Nat) (z_waySeconds : Nat) (z_wayCosts : Nat) (z_pairs : Nat) (z_foundKilograms : Nat) (z_rows : Nat) (z_rounds : Nat) (z_costs : Nat) (z_lists : Nat) (z_barred : Nat) (z_row : Nat) (z_newRows : Nat) (z_newRounds : Nat) (z_newCosts : Nat) (z_newLists : Nat) (z_over : Nat) (z_under : Nat) (z_based : Nat) (z_open : Nat) (m_bins : Nat) (m_kilograms : Nat → Int32) (m_seconds : Nat → Int32) (m_waySeconds : Nat → Int32) (m_wayCosts : Nat → Int32) (m_load : Int32) (m_time : Int32) (m_vehicles : Int32) (m_pairs : Nat → Int32) (m_isFound : Int32) (m_foundBins : Int32) (m_foundLoad : Int32) (m_foundVehicles : Int32) (m_foundKilograms : Nat → Int32) (m_rows : Nat → Int32) (m_rounds : Nat → Int32) (m_costs : Nat → Int32) (m_lists : Nat → Int32) (m_barred : Nat → Int32) (m_fault : Int32) (m_newRows : Nat → Int32) (m_newRounds : Nat → Int32) (m_newCosts : Nat → Int32) (m_newLists : Nat → Int32) (m_over : Nat → Int64) (m_under : Nat → Int64) (m_based : Nat → Int32) (m_open : Nat → Int32) (rw : Nat → Nat) (ln : Nat) (hl1 : 1 ≤ ln) (hln : ln ≤ 6) (hrw : ∀ j, j < 6 → rw j < 6) : Met l yM_costOf wM_costOf (rmL 0 0 0) (va_Pc [.ref h0] (fun U => wd D kI kJ kZ kG kH [(h0, .inr (8, [.int (nI m_bins), .ref z_kilograms, .ref z_seconds, .ref z_waySeconds, .ref z_wayCosts, .int m_load, .int m_time, .int m_vehicles, .ref z_pairs, .int m_isFound, .int m_foundBins, .int m_foundLoad, .int m_foundVehicles, .ref z_foundKilograms, .ref z_rows, .ref z_rounds, .ref z_costs, .ref z_lists, .ref z_barred, .int m_fault, .ref z_row, .int (nI ln), .ref z_newRows, .ref z_newRounds, .ref z_newCosts, .ref z_newLists, .ref z_over, .ref z_under, .ref z_based, .ref z_open])), (z_kilograms, .inl (kI, 6, .inl m_kilograms)), (z_seconds, .inl (kI, 6, .inl m_seconds)), (z_waySeconds, .inl (kI, 49, .inl m_waySeconds)), (z_wayCosts, .inl (kI, 49, .inl m_wayCosts)), (z_pairs, .inl (kI, 36, .inl m_pairs)), (z_foundKilograms, .inl (kI, 6, .inl m_foundKilograms)), (z_rows, .inl (kZ, 384, .inl m_rows)), (z_rounds, .inl (kZ, 384, .inl m_rounds)), (z_costs, .inl (kI, 64, .inl m_costs)), (z_lists, .inl (kI, 384, .inl m_lists)), (z_barred, .inl (kZ, 64, .inl m_barred)), (z_row, .inl (kI, 6, .inl (bsI rw))), (z_newRows, .inl (kZ, 384, .inl m_newRows)), (z_newRounds, .inl (kZ, 384, .inl m_newRounds)), (z_newCosts, .inl (kI, 64, .inl m_newCosts)), (z_newLists, .inl (kI, 384, .inl m_newLists)), (z_over, .inl (kJ, 576, .inr (.inl m_over))), (z_under, .inl (kJ, 576, .inr (.inl m_under))), (z_based, .inl (kI, 7, .inl m_based)), (z_open, .inl (kZ, 64, .inl m_open))] U)) (vp_Si (fun r : Int32 => r = cosF m_wayCosts rw ln)) 0 0 (fun _ => False) := by
  refine Met.ofW (cc := bM_costOf) (maxL := 3) (ret := (some .int)) (by decide) rfl ?_
  intro p e s m args below meth c s₁ B hml hv
  obtain ⟨rfl, hP, hK, hN⟩ := hv
  have hx := B.exec
  have hb := B.bytes
  have hr := B.returns
  have hts := atoms_spec (ws := wM_costOf) B.pre
  have hown : s.vm.findClass NM = some m.cls := findClass_of_methodNamed B.named
  have hlocks := B.notSynchronized
  have hl := lv_entry ([.ref h0]) (n := 3) (Nat.le_of_ble_eq_true rfl)
  rw [lg_entry_eq]
  generalize (lg_sl ([.ref h0]) ++ List.replicate (3 - (lg_sl ([.ref h0])).length) Slot.unset).toArray = ls at hl ⊢
  have hl : lv_has ls 3 [(0, .ref h0)] := hl
  have LP24 : ∀ (dd : Nat) (k : Nat) (ls : Array Slot), ln - k < dd → (k ≤ ln) → lv_has ls 3 [(0, .ref h0), (1, .int (cosS m_wayCosts rw ln k)), (2, .int (nI k))] → W p l e (headSpec wM_costOf (rmL 0 0 0)).room s m ([.ref h0] : List Value).toArray below meth c s.heap [] 0 0 (MQ below (vp_Si (fun r : Int32 => r = cosF m_wayCosts rw ln)) ([.ref h0] : List Value).toArray s 0 0 (fun _ => False)) (F0 m 24 ls []) := by
    intro dd
    induction dd with
    | zero =>
      intro k ls hm
      exact absurd hm (Nat.not_lt_zero _)
    | succ dd ihLP24 =>
      intro k ls hm hk hl
      refine lv_iload_n hx hb dM_costOf_24 rfl (lv_at hl 2 rfl) ?_
      refine lv_aload_n hx hb dM_costOf_25 rfl (lv_at hl 0 rfl) ?_
      refine va_get (D := D) (cl := rcl) (ci := 8) (v := .int (nI ln)) (C := NM) (T := TM) (N := 30) hx hb hts (fun w h => gw_t w (uwM w h)) hown hK hP 0 rfl rfl 21 (by decide) (hts _ (gw_t _ hw651)) (fun _ h9 => h9) rfl dM_costOf_26 ?_
      refine lv_icmp_ge (tgt := 76) hx hb dM_costOf_29 (by decide) (fun c29 => ?_) (fun c29 => ?_)
      · have c29 : ln ≤ k := (nI_leI (a := ln) (b := k) (by omega) (by omega)).mp c29
        refine lv_iload_n hx hb dM_costOf_76 rfl (lv_at hl 1 rfl) ?_
        exact W.iret (v := cosS m_wayCosts rw ln k) hx hb hr (fun t ht9 hW9 => ⟨_, rfl, by rw [show k = ln by omega]; rfl, ht9⟩) t_nil dM_costOf_77
      · have c29 : ¬ ln ≤ k := mt (nI_leI (a := ln) (b := k) (by omega) (by omega)).mpr c29
        refine lv_iload_n hx hb dM_costOf_32 rfl (lv_at hl 1 rfl) ?_
        refine lv_aload_n hx hb dM_costOf_33 rfl (lv_at hl 0 rfl) ?_
        refine va_get (D := D) (cl := rcl) (ci := 8) (v := .ref z_wayCosts) (C := NM) (T := TM) (N := 30) hx hb hts (fun w h => gw_t w (uwM w h)) hown hK hP 0 rfl rfl 4 (by decide) (hts _ (gw_t _ hw634)) (fun _ h9 => h9) rfl dM_costOf_34 ?_
        refine lv_bipush (v := 7) hx hb dM_costOf_37 (by decide) ?_
        refine lv_iload_n hx hb dM_costOf_39 rfl (lv_at hl 2 rfl) ?_
        refine lv_if_ne (tgt := 47) hx hb dM_costOf_40 (by decide) (fun c40 => ?_) (fun c40 => ?_)
        · have c40 : ¬ k = 0 := mt (nI_eq (a := k) (b := 0) (by omega) (by omega)).mpr c40
          refine lv_aload_n hx hb dM_costOf_47 rfl (lv_at hl 0 rfl) ?_
          refine va_get (D := D) (cl := rcl) (ci := 8) (v := .ref z_row) (C := NM) (T := TM) (N := 30) hx hb hts (fun w h => gw_t w (uwM w h)) hown hK hP 0 rfl rfl 20 (by decide) (hts _ (gw_t _ hw650)) (fun _ h9 => h9) rfl dM_costOf_48 ?_
          refine lv_iload_n hx hb dM_costOf_51 rfl (lv_at hl 2 rfl) ?_
          refine lv_iconst (v := 1) hx hb dM_costOf_52 (by decide) ?_
          refine lv_isub hx hb dM_costOf_53 ?_
          refine lc_i (y := nI (k - 1)) (pk_sub (a := k) (b := 1) (by omega)) ?_
          have hk5 := hrw (k - 1) (by omega)
          refine ra_i (k := k - 1) hx hb hK hP 12 0 rfl rfl (by omega) (by omega) dM_costOf_54 ?_
          refine lc_i (y := nI (rw (k - 1))) (rfl) ?_
          refine lv_iconst (v := 1) hx hb dM_costOf_55 (by decide) ?_
          refine lv_iadd hx hb dM_costOf_56 ?_
          refine lc_i (y := nI (rw (k - 1) + 1)) (nI_add (rw (k - 1)) 1) ?_
          refine lc_i (y := nI (frM rw k)) (by unfold frM; rw [if_neg (by omega)]) ?_
          refine lv_imul hx hb dM_costOf_57 ?_
          refine lc_i (y := nI (7 * frM rw k)) (pk_mul 7 (frM rw k)) ?_
          refine lv_aload_n hx hb dM_costOf_58 rfl (lv_at hl 0 rfl) ?_
          refine va_get (D := D) (cl := rcl) (ci := 8) (v := .ref z_row) (C := NM) (T := TM) (N := 30) hx hb hts (fun w h => gw_t w (uwM w h)) hown hK hP 0 rfl rfl 20 (by decide) (hts _ (gw_t _ hw650)) (fun _ h9 => h9) rfl dM_costOf_59 ?_
          refine lv_iload_n hx hb dM_costOf_62 rfl (lv_at hl 2 rfl) ?_
          have hk6 := hrw k (by omega)
          have hfr : frM rw k < 7 := frM_lt hrw (by omega)
          refine ra_i (k := k) hx hb hK hP 12 0 rfl rfl (by omega) (by omega) dM_costOf_63 ?_
          refine lc_i (y := nI (rw k)) (rfl) ?_
          refine lv_iadd hx hb dM_costOf_64 ?_
          refine lc_i (y := nI (7 * frM rw k + rw k)) (nI_add (7 * frM rw k) (rw k)) ?_
          refine lv_iconst (v := 1) hx hb dM_costOf_65 (by decide) ?_
          refine lv_iadd hx hb dM_costOf_66 ?_
          refine lc_i (y := nI (7 * frM rw k + rw k + 1)) (nI_add (7 * frM rw k + rw k) 1) ?_
          refine ra_i (k := 7 * frM rw k + rw k + 1) hx hb hK hP 4 0 rfl rfl (by omega) (by omega) dM_costOf_67 ?_
          refine lv_iadd hx hb dM_costOf_68 ?_
          refine lc_i (y := cosS m_wayCosts rw ln (k + 1)) (rfl) ?_
          refine lv_istore_n (lv' := [(1, .int (cosS m_wayCosts rw ln (k + 1))), (0, .ref h0), (2, .int (nI k))]) hx hb dM_costOf_69 rfl hl (by decide) rfl (fun ls hl => ?_)
          refine lv_iinc (v := nI (k + 1)) (lv' := [(2, .int (nI (k + 1))), (1, .int (cosS m_wayCosts rw ln (k + 1))), (0, .ref h0)]) hx hb dM_costOf_70 hl (k := 2) rfl (nI_add k 1) (by decide) rfl (fun ls hl => ?_)
          refine lv_goto (tgt := 24) hx hb dM_costOf_73 (by decide) ?_
          exact ihLP24 (k + 1) ls (by omega) (by omega) (lv_sub hl [2, 1, 0] rfl)
        · have c40 : k = 0 := (nI_eq (a := k) (b := 0) (by omega) (by omega)).mp c40
          refine lv_iconst (v := 0) hx hb dM_costOf_43 (by decide) ?_
          refine lv_goto (tgt := 57) hx hb dM_costOf_44 (by decide) ?_
          refine lc_i (y := nI (frM rw k)) (by unfold frM; rw [if_pos (by omega)]; rfl) ?_
          refine lv_imul hx hb dM_costOf_57 ?_
          refine lc_i (y := nI (7 * frM rw k)) (pk_mul 7 (frM rw k)) ?_
          refine lv_aload_n hx hb dM_costOf_58 rfl (lv_at hl 0 rfl) ?_
          refine va_get (D := D) (cl := rcl) (ci := 8) (v := .ref z_row) (C := NM) (T := TM) (N := 30) hx hb hts (fun w h => gw_t w (uwM w h)) hown hK hP 0 rfl rfl 20 (by decide) (hts _ (gw_t _ hw650)) (fun _ h9 => h9) rfl dM_costOf_59 ?_
          refine lv_iload_n hx hb dM_costOf_62 rfl (lv_at hl 2 rfl) ?_
          have hk6 := hrw k (by omega)
          have hfr : frM rw k < 7 := frM_lt hrw (by omega)
          refine ra_i (k := k) hx hb hK hP 12 0 rfl rfl (by omega) (by omega) dM_costOf_63 ?_
          refine lc_i (y := nI (rw k)) (rfl) ?_
          refine lv_iadd hx hb dM_costOf_64 ?_
          refine lc_i (y := nI (7 * frM rw k + rw k)) (nI_add (7 * frM rw k) (rw k)) ?_
          refine lv_iconst (v := 1) hx hb dM_costOf_65 (by decide) ?_
          refine lv_iadd hx hb dM_costOf_66 ?_
          refine lc_i (y := nI (7 * frM rw k + rw k + 1)) (nI_add (7 * frM rw k + rw k) 1) ?_
          refine ra_i (k := 7 * frM rw k + rw k + 1) hx hb hK hP 4 0 rfl rfl (by omega) (by omega) dM_costOf_67 ?_
          refine lv_iadd hx hb dM_costOf_68 ?_
          refine lc_i (y := cosS m_wayCosts rw ln (k + 1)) (rfl) ?_
          refine lv_istore_n (lv' := [(1, .int (cosS m_wayCosts rw ln (k + 1))), (0, .ref h0), (2, .int (nI k))]) hx hb dM_costOf_69 rfl hl (by decide) rfl (fun ls hl => ?_)
          refine lv_iinc (v := nI (k + 1)) (lv' := [(2, .int (nI (k + 1))), (1, .int (cosS m_wayCosts rw ln (k + 1))), (0, .ref h0)]) hx hb dM_costOf_70 hl (k := 2) rfl (nI_add k 1) (by decide) rfl (fun ls hl => ?_)
          refine lv_goto (tgt := 24) hx hb dM_costOf_73 (by decide) ?_
          exact ihLP24 (k + 1) ls (by omega) (by omega) (lv_sub hl [2, 1, 0] rfl)
  refine lv_aload_n hx hb dM_costOf_0 rfl (lv_at hl 0 rfl) ?_
  refine va_get (D := D) (cl := rcl) (ci := 8) (v := .ref z_wayCosts) (C := NM) (T := TM) (N := 30) hx hb hts (fun w h => gw_t w (uwM w h)) hown hK hP 0 rfl rfl 4 (by decide) (hts _ (gw_t _ hw634)) (fun _ h9 => h9) rfl dM_costOf_1 ?_
  refine lv_bipush (v := 7) hx hb dM_costOf_4 (by decide) ?_
  refine lv_aload_n hx hb dM_costOf_6 rfl (lv_at hl 0 rfl) ?_
  refine va_get (D := D) (cl := rcl) (ci := 8) (v := .ref z_row) (C := NM) (T := TM) (N := 30) hx hb hts (fun w h => gw_t w (uwM w h)) hown hK hP 0 rfl rfl 20 (by decide) (hts _ (gw_t _ hw650)) (fun _ h9 => h9) rfl dM_costOf_7 ?_
  refine lv_aload_n hx hb dM_costOf_10 rfl (lv_at hl 0 rfl) ?_
  refine va_get (D := D) (cl := rcl) (ci := 8) (v := .int (nI ln)) (C := NM) (T := TM) (N := 30) hx hb hts (fun w h => gw_t w (uwM w h)) hown hK hP 0 rfl rfl 21 (by decide) (hts _ (gw_t _ hw651)) (fun _ h9 => h9) rfl dM_costOf_11 ?_
  refine lv_iconst (v := 1) hx hb dM_costOf_14 (by decide) ?_
  refine lv_isub hx hb dM_costOf_15 ?_
  refine lc_i (y := nI (ln - 1)) (pk_sub (a := ln) (b := 1) (by omega)) ?_
  have hk7 := hrw (ln - 1) (by omega)
  refine ra_i (k := ln - 1) hx hb hK hP 12 0 rfl rfl (by omega) (by omega) dM_costOf_16 ?_
  refine lc_i (y := nI (rw (ln - 1))) (rfl) ?_
  refine lv_iconst (v := 1) hx hb dM_costOf_17 (by decide) ?_
  refine lv_iadd hx hb dM_costOf_18 ?_
  refine lc_i (y := nI (rw (ln - 1) + 1)) (nI_add (rw (ln - 1)) 1) ?_
  refine lv_imul hx hb dM_costOf_19 ?_
  refine lc_i (y := nI (7 * (rw (ln - 1) + 1))) (pk_mul 7 (rw (ln - 1) + 1)) ?_
  refine ra_i (k := 7 * (rw (ln - 1) + 1)) hx hb hK hP 4 0 rfl rfl (by omega) (by omega) dM_costOf_20 ?_
  refine lc_i (y := cosS m_wayCosts rw ln 0) rfl ?_
  refine lv_istore_n (lv' := [(1, .int (cosS m_wayCosts rw ln 0)), (0, .ref h0)]) hx hb dM_costOf_21 rfl hl (by decide) rfl (fun ls hl => ?_)
  refine lv_iconst (v := 0) hx hb dM_costOf_22 (by decide) ?_
  refine lv_istore_n (lv' := [(2, .int 0), (1, .int (cosS m_wayCosts rw ln 0)), (0, .ref h0)]) hx hb dM_costOf_23 rfl hl (by decide) rfl (fun ls hl => ?_)
  exact LP24 _ 0 ls (Nat.lt_succ_self _) (by omega) (lv_sub hl [2, 1, 0] rfl)

set_option maxHeartbeats 4000000 in
set_option maxRecDepth 100000 in
theorem cM_next (l : Launch) (D : va_G) (kI kJ kZ kG kH : ClassId) (h0 : Nat) (z_kilograms : Nat) (z_seconds : Nat) (z_waySeconds : Nat) (z_wayCosts : Nat) (z_pairs : Nat) (z_foundKilograms : Nat) (z_rows : Nat) (z_rounds : Nat) (z_costs : Nat) (z_lists : Nat) (z_barred : Nat) (z_row : Nat) (z_newRows : Nat) (z_newRounds : Nat) (z_newCosts : Nat) (z_newLists : Nat) (z_over : Nat) (z_under : Nat) (z_based : Nat) (z_open : Nat) (m_bins : Nat) (m_kilograms : Nat → Int32) (m_seconds : Nat → Int32) (m_waySeconds : Nat → Int32) (m_wayCosts : Nat → Int32) (m_load : Int32) (m_time : Int32) (m_vehicles : Int32) (m_pairs : Nat → Int32) (m_isFound : Int32) (m_foundBins : Int32) (m_foundLoad : Int32) (m_foundVehicles : Int32) (m_foundKilograms : Nat → Int32) (m_rows : Nat → Int32) (m_rounds : Nat → Int32) (m_costs : Nat → Int32) (m_lists : Nat → Int32) (m_barred : Nat → Int32) (m_fault : Int32) (m_newRows : Nat → Int32) (m_newRounds : Nat → Int32) (m_newCosts : Nat → Int32) (m_newLists : Nat → Int32) (m_over : Nat → Int64) (m_under : Nat → Int64) (m_based : Nat → Int32) (m_open : Nat → Int32) (rw : Nat → Nat) (ln : Nat) (lg : Int32) (hbn : m_bins ≤ 6) (hln : ln ≤ 6) (hrw : ∀ j, j < 6 → rw j < 6) (hok : ∀ p b, nxT m_bins rw ln lg = some (p, b) → p < 6) (sz : Nat) : Met l yM_next wM_next (rmL 1 0 0) (va_Pc [.ref h0, .int lg] (fun U => U.heap.size = sz ∧ wd D kI kJ kZ kG kH [(h0, .inr (8, [.int (nI m_bins), .ref z_kilograms, .ref z_seconds, .ref z_waySeconds, .ref z_wayCosts, .int m_load, .int m_time, .int m_vehicles, .ref z_pairs, .int m_isFound, .int m_foundBins, .int m_foundLoad, .int m_foundVehicles, .ref z_foundKilograms, .ref z_rows, .ref z_rounds, .ref z_costs, .ref z_lists, .ref z_barred, .int m_fault, .ref z_row, .int (nI ln), .ref z_newRows, .ref z_newRounds, .ref z_newCosts, .ref z_newLists, .ref z_over, .ref z_under, .ref z_based, .ref z_open])), (z_kilograms, .inl (kI, 6, .inl m_kilograms)), (z_seconds, .inl (kI, 6, .inl m_seconds)), (z_waySeconds, .inl (kI, 49, .inl m_waySeconds)), (z_wayCosts, .inl (kI, 49, .inl m_wayCosts)), (z_pairs, .inl (kI, 36, .inl m_pairs)), (z_foundKilograms, .inl (kI, 6, .inl m_foundKilograms)), (z_rows, .inl (kZ, 384, .inl m_rows)), (z_rounds, .inl (kZ, 384, .inl m_rounds)), (z_costs, .inl (kI, 64, .inl m_costs)), (z_lists, .inl (kI, 384, .inl m_lists)), (z_barred, .inl (kZ, 64, .inl m_barred)), (z_row, .inl (kI, 6, .inl (bsI rw))), (z_newRows, .inl (kZ, 384, .inl m_newRows)), (z_newRounds, .inl (kZ, 384, .inl m_newRounds)), (z_newCosts, .inl (kI, 64, .inl m_newCosts)), (z_newLists, .inl (kI, 384, .inl m_newLists)), (z_over, .inl (kJ, 576, .inr (.inl m_over))), (z_under, .inl (kJ, 576, .inr (.inl m_under))), (z_based, .inl (kI, 7, .inl m_based)), (z_open, .inl (kZ, 64, .inl m_open))] U ∧ va_D (fun _ => True) [(h0, .inr (8, [.int (nI m_bins), .ref z_kilograms, .ref z_seconds, .ref z_waySeconds, .ref z_wayCosts, .int m_load, .int m_time, .int m_vehicles, .ref z_pairs, .int m_isFound, .int m_foundBins, .int m_foundLoad, .int m_foundVehicles, .ref z_foundKilograms, .ref z_rows, .ref z_rounds, .ref z_costs, .ref z_lists, .ref z_barred, .int m_fault, .ref z_row, .int (nI ln), .ref z_newRows, .ref z_newRounds, .ref z_newCosts, .ref z_newLists, .ref z_over, .ref z_under, .ref z_based, .ref z_open])), (z_kilograms, .inl (kI, 6, .inl m_kilograms)), (z_seconds, .inl (kI, 6, .inl m_seconds)), (z_waySeconds, .inl (kI, 49, .inl m_waySeconds)), (z_wayCosts, .inl (kI, 49, .inl m_wayCosts)), (z_pairs, .inl (kI, 36, .inl m_pairs)), (z_foundKilograms, .inl (kI, 6, .inl m_foundKilograms)), (z_rows, .inl (kZ, 384, .inl m_rows)), (z_rounds, .inl (kZ, 384, .inl m_rounds)), (z_costs, .inl (kI, 64, .inl m_costs)), (z_lists, .inl (kI, 384, .inl m_lists)), (z_barred, .inl (kZ, 64, .inl m_barred)), (z_row, .inl (kI, 6, .inl (bsI rw))), (z_newRows, .inl (kZ, 384, .inl m_newRows)), (z_newRounds, .inl (kZ, 384, .inl m_newRounds)), (z_newCosts, .inl (kI, 64, .inl m_newCosts)), (z_newLists, .inl (kI, 384, .inl m_newLists)), (z_over, .inl (kJ, 576, .inr (.inl m_over))), (z_under, .inl (kJ, 576, .inr (.inl m_under))), (z_based, .inl (kI, 7, .inl m_based)), (z_open, .inl (kZ, 64, .inl m_open))])) (va_Qi (fun (r : Int32) (v9 : (Nat → Nat) × Nat) => nxP (nxT m_bins rw ln lg) rw r v9) (fun v9 t => va_P D rcl [(h0, .inr (8, [.int (nI m_bins), .ref z_kilograms, .ref z_seconds, .ref z_waySeconds, .ref z_wayCosts, .int m_load, .int m_time, .int m_vehicles, .ref z_pairs, .int m_isFound, .int m_foundBins, .int m_foundLoad, .int m_foundVehicles, .ref z_foundKilograms, .ref z_rows, .ref z_rounds, .ref z_costs, .ref z_lists, .ref z_barred, .int m_fault, .ref z_row, .int (nI v9.2), .ref z_newRows, .ref z_newRounds, .ref z_newCosts, .ref z_newLists, .ref z_over, .ref z_under, .ref z_based, .ref z_open])), (z_kilograms, .inl (kI, 6, .inl m_kilograms)), (z_seconds, .inl (kI, 6, .inl m_seconds)), (z_waySeconds, .inl (kI, 49, .inl m_waySeconds)), (z_wayCosts, .inl (kI, 49, .inl m_wayCosts)), (z_pairs, .inl (kI, 36, .inl m_pairs)), (z_foundKilograms, .inl (kI, 6, .inl m_foundKilograms)), (z_rows, .inl (kZ, 384, .inl m_rows)), (z_rounds, .inl (kZ, 384, .inl m_rounds)), (z_costs, .inl (kI, 64, .inl m_costs)), (z_lists, .inl (kI, 384, .inl m_lists)), (z_barred, .inl (kZ, 64, .inl m_barred)), (z_row, .inl (kI, 6, .inl (bsI v9.1))), (z_newRows, .inl (kZ, 384, .inl m_newRows)), (z_newRounds, .inl (kZ, 384, .inl m_newRounds)), (z_newCosts, .inl (kI, 64, .inl m_newCosts)), (z_newLists, .inl (kI, 384, .inl m_newLists)), (z_over, .inl (kJ, 576, .inr (.inl m_over))), (z_under, .inl (kJ, 576, .inr (.inl m_under))), (z_based, .inl (kI, 7, .inl m_based)), (z_open, .inl (kZ, 64, .inl m_open))] t.heap ∧ va_K D rcl (TY kI kJ kZ kG kH) t ∧ va_D (va_A [(h0, .inr (8, [.int (nI m_bins), .ref z_kilograms, .ref z_seconds, .ref z_waySeconds, .ref z_wayCosts, .int m_load, .int m_time, .int m_vehicles, .ref z_pairs, .int m_isFound, .int m_foundBins, .int m_foundLoad, .int m_foundVehicles, .ref z_foundKilograms, .ref z_rows, .ref z_rounds, .ref z_costs, .ref z_lists, .ref z_barred, .int m_fault, .ref z_row, .int (nI ln), .ref z_newRows, .ref z_newRounds, .ref z_newCosts, .ref z_newLists, .ref z_over, .ref z_under, .ref z_based, .ref z_open])), (z_kilograms, .inl (kI, 6, .inl m_kilograms)), (z_seconds, .inl (kI, 6, .inl m_seconds)), (z_waySeconds, .inl (kI, 49, .inl m_waySeconds)), (z_wayCosts, .inl (kI, 49, .inl m_wayCosts)), (z_pairs, .inl (kI, 36, .inl m_pairs)), (z_foundKilograms, .inl (kI, 6, .inl m_foundKilograms)), (z_rows, .inl (kZ, 384, .inl m_rows)), (z_rounds, .inl (kZ, 384, .inl m_rounds)), (z_costs, .inl (kI, 64, .inl m_costs)), (z_lists, .inl (kI, 384, .inl m_lists)), (z_barred, .inl (kZ, 64, .inl m_barred)), (z_row, .inl (kI, 6, .inl (bsI rw))), (z_newRows, .inl (kZ, 384, .inl m_newRows)), (z_newRounds, .inl (kZ, 384, .inl m_newRounds)), (z_newCosts, .inl (kI, 64, .inl m_newCosts)), (z_newLists, .inl (kI, 384, .inl m_newLists)), (z_over, .inl (kJ, 576, .inr (.inl m_over))), (z_under, .inl (kJ, 576, .inr (.inl m_under))), (z_based, .inl (kI, 7, .inl m_based)), (z_open, .inl (kZ, 64, .inl m_open))] sz) [(h0, .inr (8, [.int (nI m_bins), .ref z_kilograms, .ref z_seconds, .ref z_waySeconds, .ref z_wayCosts, .int m_load, .int m_time, .int m_vehicles, .ref z_pairs, .int m_isFound, .int m_foundBins, .int m_foundLoad, .int m_foundVehicles, .ref z_foundKilograms, .ref z_rows, .ref z_rounds, .ref z_costs, .ref z_lists, .ref z_barred, .int m_fault, .ref z_row, .int (nI v9.2), .ref z_newRows, .ref z_newRounds, .ref z_newCosts, .ref z_newLists, .ref z_over, .ref z_under, .ref z_based, .ref z_open])), (z_kilograms, .inl (kI, 6, .inl m_kilograms)), (z_seconds, .inl (kI, 6, .inl m_seconds)), (z_waySeconds, .inl (kI, 49, .inl m_waySeconds)), (z_wayCosts, .inl (kI, 49, .inl m_wayCosts)), (z_pairs, .inl (kI, 36, .inl m_pairs)), (z_foundKilograms, .inl (kI, 6, .inl m_foundKilograms)), (z_rows, .inl (kZ, 384, .inl m_rows)), (z_rounds, .inl (kZ, 384, .inl m_rounds)), (z_costs, .inl (kI, 64, .inl m_costs)), (z_lists, .inl (kI, 384, .inl m_lists)), (z_barred, .inl (kZ, 64, .inl m_barred)), (z_row, .inl (kI, 6, .inl (bsI v9.1))), (z_newRows, .inl (kZ, 384, .inl m_newRows)), (z_newRounds, .inl (kZ, 384, .inl m_newRounds)), (z_newCosts, .inl (kI, 64, .inl m_newCosts)), (z_newLists, .inl (kI, 384, .inl m_newLists)), (z_over, .inl (kJ, 576, .inr (.inl m_over))), (z_under, .inl (kJ, 576, .inr (.inl m_under))), (z_based, .inl (kI, 7, .inl m_based)), (z_open, .inl (kZ, 64, .inl m_open))]) (va_A [(h0, .inr (8, [.int (nI m_bins), .ref z_kilograms, .ref z_seconds, .ref z_waySeconds, .ref z_wayCosts, .int m_load, .int m_time, .int m_vehicles, .ref z_pairs, .int m_isFound, .int m_foundBins, .int m_foundLoad, .int m_foundVehicles, .ref z_foundKilograms, .ref z_rows, .ref z_rounds, .ref z_costs, .ref z_lists, .ref z_barred, .int m_fault, .ref z_row, .int (nI ln), .ref z_newRows, .ref z_newRounds, .ref z_newCosts, .ref z_newLists, .ref z_over, .ref z_under, .ref z_based, .ref z_open])), (z_kilograms, .inl (kI, 6, .inl m_kilograms)), (z_seconds, .inl (kI, 6, .inl m_seconds)), (z_waySeconds, .inl (kI, 49, .inl m_waySeconds)), (z_wayCosts, .inl (kI, 49, .inl m_wayCosts)), (z_pairs, .inl (kI, 36, .inl m_pairs)), (z_foundKilograms, .inl (kI, 6, .inl m_foundKilograms)), (z_rows, .inl (kZ, 384, .inl m_rows)), (z_rounds, .inl (kZ, 384, .inl m_rounds)), (z_costs, .inl (kI, 64, .inl m_costs)), (z_lists, .inl (kI, 384, .inl m_lists)), (z_barred, .inl (kZ, 64, .inl m_barred)), (z_row, .inl (kI, 6, .inl (bsI rw))), (z_newRows, .inl (kZ, 384, .inl m_newRows)), (z_newRounds, .inl (kZ, 384, .inl m_newRounds)), (z_newCosts, .inl (kI, 64, .inl m_newCosts)), (z_newLists, .inl (kI, 384, .inl m_newLists)), (z_over, .inl (kJ, 576, .inr (.inl m_over))), (z_under, .inl (kJ, 576, .inr (.inl m_under))), (z_based, .inl (kI, 7, .inl m_based)), (z_open, .inl (kZ, 64, .inl m_open))] sz)) 0 0 (va_A [(h0, .inr (8, [.int (nI m_bins), .ref z_kilograms, .ref z_seconds, .ref z_waySeconds, .ref z_wayCosts, .int m_load, .int m_time, .int m_vehicles, .ref z_pairs, .int m_isFound, .int m_foundBins, .int m_foundLoad, .int m_foundVehicles, .ref z_foundKilograms, .ref z_rows, .ref z_rounds, .ref z_costs, .ref z_lists, .ref z_barred, .int m_fault, .ref z_row, .int (nI ln), .ref z_newRows, .ref z_newRounds, .ref z_newCosts, .ref z_newLists, .ref z_over, .ref z_under, .ref z_based, .ref z_open])), (z_kilograms, .inl (kI, 6, .inl m_kilograms)), (z_seconds, .inl (kI, 6, .inl m_seconds)), (z_waySeconds, .inl (kI, 49, .inl m_waySeconds)), (z_wayCosts, .inl (kI, 49, .inl m_wayCosts)), (z_pairs, .inl (kI, 36, .inl m_pairs)), (z_foundKilograms, .inl (kI, 6, .inl m_foundKilograms)), (z_rows, .inl (kZ, 384, .inl m_rows)), (z_rounds, .inl (kZ, 384, .inl m_rounds)), (z_costs, .inl (kI, 64, .inl m_costs)), (z_lists, .inl (kI, 384, .inl m_lists)), (z_barred, .inl (kZ, 64, .inl m_barred)), (z_row, .inl (kI, 6, .inl (bsI rw))), (z_newRows, .inl (kZ, 384, .inl m_newRows)), (z_newRounds, .inl (kZ, 384, .inl m_newRounds)), (z_newCosts, .inl (kI, 64, .inl m_newCosts)), (z_newLists, .inl (kI, 384, .inl m_newLists)), (z_over, .inl (kJ, 576, .inr (.inl m_over))), (z_under, .inl (kJ, 576, .inr (.inl m_under))), (z_based, .inl (kI, 7, .inl m_based)), (z_open, .inl (kZ, 64, .inl m_open))] sz) := by
  refine Met.ofW (cc := bM_next) (maxL := 5) (ret := (some .boolean)) (by decide) rfl ?_
  intro p e s m args below meth c s₁ B hml hv
  obtain ⟨rfl, hsz, ⟨hP, hK, hN⟩, hD0⟩ := hv
  have hx := B.exec
  have hb := B.bytes
  have hr := B.returns
  have hts := atoms_spec (ws := wM_next) B.pre
  have hown : s.vm.findClass NM = some m.cls := findClass_of_methodNamed B.named
  have hlocks := B.notSynchronized
  subst hsz
  have hD := hD0.self (sz := s.heap.size)
  generalize hAe : va_A [(h0, .inr (8, [.int (nI m_bins), .ref z_kilograms, .ref z_seconds, .ref z_waySeconds, .ref z_wayCosts, .int m_load, .int m_time, .int m_vehicles, .ref z_pairs, .int m_isFound, .int m_foundBins, .int m_foundLoad, .int m_foundVehicles, .ref z_foundKilograms, .ref z_rows, .ref z_rounds, .ref z_costs, .ref z_lists, .ref z_barred, .int m_fault, .ref z_row, .int (nI ln), .ref z_newRows, .ref z_newRounds, .ref z_newCosts, .ref z_newLists, .ref z_over, .ref z_under, .ref z_based, .ref z_open])), (z_kilograms, .inl (kI, 6, .inl m_kilograms)), (z_seconds, .inl (kI, 6, .inl m_seconds)), (z_waySeconds, .inl (kI, 49, .inl m_waySeconds)), (z_wayCosts, .inl (kI, 49, .inl m_wayCosts)), (z_pairs, .inl (kI, 36, .inl m_pairs)), (z_foundKilograms, .inl (kI, 6, .inl m_foundKilograms)), (z_rows, .inl (kZ, 384, .inl m_rows)), (z_rounds, .inl (kZ, 384, .inl m_rounds)), (z_costs, .inl (kI, 64, .inl m_costs)), (z_lists, .inl (kI, 384, .inl m_lists)), (z_barred, .inl (kZ, 64, .inl m_barred)), (z_row, .inl (kI, 6, .inl (bsI rw))), (z_newRows, .inl (kZ, 384, .inl m_newRows)), (z_newRounds, .inl (kZ, 384, .inl m_newRounds)), (z_newCosts, .inl (kI, 64, .inl m_newCosts)), (z_newLists, .inl (kI, 384, .inl m_newLists)), (z_over, .inl (kJ, 576, .inr (.inl m_over))), (z_under, .inl (kJ, 576, .inr (.inl m_under))), (z_based, .inl (kI, 7, .inl m_based)), (z_open, .inl (kZ, 64, .inl m_open))] s.heap.size = A at hD ⊢
  have hA : ∀ q : Nat, s.heap.size ≤ q → A q := fun q h => by rw [← hAe]; exact Or.inr h
  have hS : va_S A s.heap s.heap [] := va_S.rf
  have hP : va_P D rcl [(h0, .inr (8, [.int (nI m_bins), .ref z_kilograms, .ref z_seconds, .ref z_waySeconds, .ref z_wayCosts, .int m_load, .int m_time, .int m_vehicles, .ref z_pairs, .int m_isFound, .int m_foundBins, .int m_foundLoad, .int m_foundVehicles, .ref z_foundKilograms, .ref z_rows, .ref z_rounds, .ref z_costs, .ref z_lists, .ref z_barred, .int m_fault, .ref z_row, .int (nI ln), .ref z_newRows, .ref z_newRounds, .ref z_newCosts, .ref z_newLists, .ref z_over, .ref z_under, .ref z_based, .ref z_open])), (z_kilograms, .inl (kI, 6, .inl m_kilograms)), (z_seconds, .inl (kI, 6, .inl m_seconds)), (z_waySeconds, .inl (kI, 49, .inl m_waySeconds)), (z_wayCosts, .inl (kI, 49, .inl m_wayCosts)), (z_pairs, .inl (kI, 36, .inl m_pairs)), (z_foundKilograms, .inl (kI, 6, .inl m_foundKilograms)), (z_rows, .inl (kZ, 384, .inl m_rows)), (z_rounds, .inl (kZ, 384, .inl m_rounds)), (z_costs, .inl (kI, 64, .inl m_costs)), (z_lists, .inl (kI, 384, .inl m_lists)), (z_barred, .inl (kZ, 64, .inl m_barred)), (z_row, .inl (kI, 6, .inl (bsI rw))), (z_newRows, .inl (kZ, 384, .inl m_newRows)), (z_newRounds, .inl (kZ, 384, .inl m_newRounds)), (z_newCosts, .inl (kI, 64, .inl m_newCosts)), (z_newLists, .inl (kI, 384, .inl m_newLists)), (z_over, .inl (kJ, 576, .inr (.inl m_over))), (z_under, .inl (kJ, 576, .inr (.inl m_under))), (z_based, .inl (kI, 7, .inl m_based)), (z_open, .inl (kZ, 64, .inl m_open))] s.heap := hP
  have hl := lv_entry ([.ref h0, .int lg]) (n := 5) (Nat.le_of_ble_eq_true rfl)
  rw [lg_entry_eq]
  generalize (lg_sl ([.ref h0, .int lg]) ++ List.replicate (5 - (lg_sl ([.ref h0, .int lg])).length) Slot.unset).toArray = ls at hl ⊢
  have hl : lv_has ls 5 [(0, .ref h0), (1, .int lg)] := hl
  have LP35 : ∀ (dd : Nat) (l9 : Nat) (f9 : Nat) (H : Heap) (locs : List Loc) (ls : Array Slot), l9 < dd → (l9 ≤ ln) → (f9 ≤ 6) → (nxT m_bins rw ln lg = nxL m_bins rw l9 f9) → va_P D rcl [(h0, .inr (8, [.int (nI m_bins), .ref z_kilograms, .ref z_seconds, .ref z_waySeconds, .ref z_wayCosts, .int m_load, .int m_time, .int m_vehicles, .ref z_pairs, .int m_isFound, .int m_foundBins, .int m_foundLoad, .int m_foundVehicles, .ref z_foundKilograms, .ref z_rows, .ref z_rounds, .ref z_costs, .ref z_lists, .ref z_barred, .int m_fault, .ref z_row, .int (nI l9), .ref z_newRows, .ref z_newRounds, .ref z_newCosts, .ref z_newLists, .ref z_over, .ref z_under, .ref z_based, .ref z_open])), (z_kilograms, .inl (kI, 6, .inl m_kilograms)), (z_seconds, .inl (kI, 6, .inl m_seconds)), (z_waySeconds, .inl (kI, 49, .inl m_waySeconds)), (z_wayCosts, .inl (kI, 49, .inl m_wayCosts)), (z_pairs, .inl (kI, 36, .inl m_pairs)), (z_foundKilograms, .inl (kI, 6, .inl m_foundKilograms)), (z_rows, .inl (kZ, 384, .inl m_rows)), (z_rounds, .inl (kZ, 384, .inl m_rounds)), (z_costs, .inl (kI, 64, .inl m_costs)), (z_lists, .inl (kI, 384, .inl m_lists)), (z_barred, .inl (kZ, 64, .inl m_barred)), (z_row, .inl (kI, 6, .inl (bsI rw))), (z_newRows, .inl (kZ, 384, .inl m_newRows)), (z_newRounds, .inl (kZ, 384, .inl m_newRounds)), (z_newCosts, .inl (kI, 64, .inl m_newCosts)), (z_newLists, .inl (kI, 384, .inl m_newLists)), (z_over, .inl (kJ, 576, .inr (.inl m_over))), (z_under, .inl (kJ, 576, .inr (.inl m_under))), (z_based, .inl (kI, 7, .inl m_based)), (z_open, .inl (kZ, 64, .inl m_open))] H → va_D A [(h0, .inr (8, [.int (nI m_bins), .ref z_kilograms, .ref z_seconds, .ref z_waySeconds, .ref z_wayCosts, .int m_load, .int m_time, .int m_vehicles, .ref z_pairs, .int m_isFound, .int m_foundBins, .int m_foundLoad, .int m_foundVehicles, .ref z_foundKilograms, .ref z_rows, .ref z_rounds, .ref z_costs, .ref z_lists, .ref z_barred, .int m_fault, .ref z_row, .int (nI l9), .ref z_newRows, .ref z_newRounds, .ref z_newCosts, .ref z_newLists, .ref z_over, .ref z_under, .ref z_based, .ref z_open])), (z_kilograms, .inl (kI, 6, .inl m_kilograms)), (z_seconds, .inl (kI, 6, .inl m_seconds)), (z_waySeconds, .inl (kI, 49, .inl m_waySeconds)), (z_wayCosts, .inl (kI, 49, .inl m_wayCosts)), (z_pairs, .inl (kI, 36, .inl m_pairs)), (z_foundKilograms, .inl (kI, 6, .inl m_foundKilograms)), (z_rows, .inl (kZ, 384, .inl m_rows)), (z_rounds, .inl (kZ, 384, .inl m_rounds)), (z_costs, .inl (kI, 64, .inl m_costs)), (z_lists, .inl (kI, 384, .inl m_lists)), (z_barred, .inl (kZ, 64, .inl m_barred)), (z_row, .inl (kI, 6, .inl (bsI rw))), (z_newRows, .inl (kZ, 384, .inl m_newRows)), (z_newRounds, .inl (kZ, 384, .inl m_newRounds)), (z_newCosts, .inl (kI, 64, .inl m_newCosts)), (z_newLists, .inl (kI, 384, .inl m_newLists)), (z_over, .inl (kJ, 576, .inr (.inl m_over))), (z_under, .inl (kJ, 576, .inr (.inl m_under))), (z_based, .inl (kI, 7, .inl m_based)), (z_open, .inl (kZ, 64, .inl m_open))] → va_S A s.heap H locs → lv_has ls 5 [(0, .ref h0), (1, .int lg), (2, .int (nI f9))] → W p l e (headSpec wM_next (rmL 1 0 0)).room s m ([.ref h0, .int lg] : List Value).toArray below meth c H locs 0 0 (MQ below (va_Qi (fun (r : Int32) (v9 : (Nat → Nat) × Nat) => nxP (nxT m_bins rw ln lg) rw r v9) (fun v9 t => va_P D rcl [(h0, .inr (8, [.int (nI m_bins), .ref z_kilograms, .ref z_seconds, .ref z_waySeconds, .ref z_wayCosts, .int m_load, .int m_time, .int m_vehicles, .ref z_pairs, .int m_isFound, .int m_foundBins, .int m_foundLoad, .int m_foundVehicles, .ref z_foundKilograms, .ref z_rows, .ref z_rounds, .ref z_costs, .ref z_lists, .ref z_barred, .int m_fault, .ref z_row, .int (nI v9.2), .ref z_newRows, .ref z_newRounds, .ref z_newCosts, .ref z_newLists, .ref z_over, .ref z_under, .ref z_based, .ref z_open])), (z_kilograms, .inl (kI, 6, .inl m_kilograms)), (z_seconds, .inl (kI, 6, .inl m_seconds)), (z_waySeconds, .inl (kI, 49, .inl m_waySeconds)), (z_wayCosts, .inl (kI, 49, .inl m_wayCosts)), (z_pairs, .inl (kI, 36, .inl m_pairs)), (z_foundKilograms, .inl (kI, 6, .inl m_foundKilograms)), (z_rows, .inl (kZ, 384, .inl m_rows)), (z_rounds, .inl (kZ, 384, .inl m_rounds)), (z_costs, .inl (kI, 64, .inl m_costs)), (z_lists, .inl (kI, 384, .inl m_lists)), (z_barred, .inl (kZ, 64, .inl m_barred)), (z_row, .inl (kI, 6, .inl (bsI v9.1))), (z_newRows, .inl (kZ, 384, .inl m_newRows)), (z_newRounds, .inl (kZ, 384, .inl m_newRounds)), (z_newCosts, .inl (kI, 64, .inl m_newCosts)), (z_newLists, .inl (kI, 384, .inl m_newLists)), (z_over, .inl (kJ, 576, .inr (.inl m_over))), (z_under, .inl (kJ, 576, .inr (.inl m_under))), (z_based, .inl (kI, 7, .inl m_based)), (z_open, .inl (kZ, 64, .inl m_open))] t.heap ∧ va_K D rcl (TY kI kJ kZ kG kH) t ∧ va_D A [(h0, .inr (8, [.int (nI m_bins), .ref z_kilograms, .ref z_seconds, .ref z_waySeconds, .ref z_wayCosts, .int m_load, .int m_time, .int m_vehicles, .ref z_pairs, .int m_isFound, .int m_foundBins, .int m_foundLoad, .int m_foundVehicles, .ref z_foundKilograms, .ref z_rows, .ref z_rounds, .ref z_costs, .ref z_lists, .ref z_barred, .int m_fault, .ref z_row, .int (nI v9.2), .ref z_newRows, .ref z_newRounds, .ref z_newCosts, .ref z_newLists, .ref z_over, .ref z_under, .ref z_based, .ref z_open])), (z_kilograms, .inl (kI, 6, .inl m_kilograms)), (z_seconds, .inl (kI, 6, .inl m_seconds)), (z_waySeconds, .inl (kI, 49, .inl m_waySeconds)), (z_wayCosts, .inl (kI, 49, .inl m_wayCosts)), (z_pairs, .inl (kI, 36, .inl m_pairs)), (z_foundKilograms, .inl (kI, 6, .inl m_foundKilograms)), (z_rows, .inl (kZ, 384, .inl m_rows)), (z_rounds, .inl (kZ, 384, .inl m_rounds)), (z_costs, .inl (kI, 64, .inl m_costs)), (z_lists, .inl (kI, 384, .inl m_lists)), (z_barred, .inl (kZ, 64, .inl m_barred)), (z_row, .inl (kI, 6, .inl (bsI v9.1))), (z_newRows, .inl (kZ, 384, .inl m_newRows)), (z_newRounds, .inl (kZ, 384, .inl m_newRounds)), (z_newCosts, .inl (kI, 64, .inl m_newCosts)), (z_newLists, .inl (kI, 384, .inl m_newLists)), (z_over, .inl (kJ, 576, .inr (.inl m_over))), (z_under, .inl (kJ, 576, .inr (.inl m_under))), (z_based, .inl (kI, 7, .inl m_based)), (z_open, .inl (kZ, 64, .inl m_open))]) A) ([.ref h0, .int lg] : List Value).toArray s 0 0 A) (F0 m 35 ls []) := by
    intro dd
    induction dd with
    | zero =>
      intro l9 f9 H locs ls hm
      exact absurd hm (Nat.not_lt_zero _)
    | succ dd ihLP35 =>
      intro l9 f9 H locs ls hm hl9 hf9 hf hP hD hS hl
      refine lv_aload_n hx hb dM_next_35 rfl (lv_at hl 0 rfl) ?_
      refine vp_callSi (W.runV (C := NM) (As := []) (rest := []) ⟨hx, hb, hml, hown, hts⟩ (cM_setOf l D kI kJ kZ kG kH h0 z_kilograms z_seconds z_waySeconds z_wayCosts z_pairs z_foundKilograms z_rows z_rounds z_costs z_lists z_barred z_row z_newRows z_newRounds z_newCosts z_newLists z_over z_under z_based z_open m_bins m_kilograms m_seconds m_waySeconds m_wayCosts m_load m_time m_vehicles m_pairs m_isFound m_foundBins m_foundLoad m_foundVehicles m_foundKilograms m_rows m_rounds m_costs m_lists m_barred m_fault m_newRows m_newRounds m_newCosts m_newLists m_over m_under m_based m_open rw l9 (by omega) hrw) ⟨cB 0 hts hw764 hw8 hw761 (by decide +kernel) ⟨Nat.le_of_ble_eq_true rfl, Nat.le_of_ble_eq_true rfl⟩ rfl rfl, hts _ (gw_t _ hw763), hts _ (gw_t _ hs22)⟩ ⟨fun a U g mk q => ⟨q.1, q.2.calling g mk a⟩, va_recv hK hP (ci := 8) (q0 := 0) rfl rfl, fun U hU hW => ⟨rfl, wd.use hP hK hN hU hW⟩⟩ rfl rfl hl.1 rfl (lv_room (Nat.le_of_ble_eq_true rfl)) dM_next_36 ⟨Nat.le_of_ble_eq_true rfl, Nat.le_of_ble_eq_true rfl⟩) (fun r36 hr36 => ?_)
      subst hr36
      have hm64 := msk_lt hrw (show l9 ≤ 6 by omega)
      refine lv_istore_n (lv' := [(3, .int (nI (msk rw l9))), (0, .ref h0), (1, .int lg), (2, .int (nI f9))]) hx hb dM_next_39 rfl hl (by decide) rfl (fun ls hl => ?_)
      refine lv_iload_n hx hb dM_next_40 rfl (lv_at hl 3 rfl) ?_
      have LPi : ∀ (dd : Nat) (b : Nat) (H : Heap) (locs : List Loc) (ls : Array Slot), 6 - b < dd → (f9 ≤ b) → (b ≤ 6) → (fst m_bins (msk rw l9) f9 = fst m_bins (msk rw l9) b) → va_P D rcl [(h0, .inr (8, [.int (nI m_bins), .ref z_kilograms, .ref z_seconds, .ref z_waySeconds, .ref z_wayCosts, .int m_load, .int m_time, .int m_vehicles, .ref z_pairs, .int m_isFound, .int m_foundBins, .int m_foundLoad, .int m_foundVehicles, .ref z_foundKilograms, .ref z_rows, .ref z_rounds, .ref z_costs, .ref z_lists, .ref z_barred, .int m_fault, .ref z_row, .int (nI l9), .ref z_newRows, .ref z_newRounds, .ref z_newCosts, .ref z_newLists, .ref z_over, .ref z_under, .ref z_based, .ref z_open])), (z_kilograms, .inl (kI, 6, .inl m_kilograms)), (z_seconds, .inl (kI, 6, .inl m_seconds)), (z_waySeconds, .inl (kI, 49, .inl m_waySeconds)), (z_wayCosts, .inl (kI, 49, .inl m_wayCosts)), (z_pairs, .inl (kI, 36, .inl m_pairs)), (z_foundKilograms, .inl (kI, 6, .inl m_foundKilograms)), (z_rows, .inl (kZ, 384, .inl m_rows)), (z_rounds, .inl (kZ, 384, .inl m_rounds)), (z_costs, .inl (kI, 64, .inl m_costs)), (z_lists, .inl (kI, 384, .inl m_lists)), (z_barred, .inl (kZ, 64, .inl m_barred)), (z_row, .inl (kI, 6, .inl (bsI rw))), (z_newRows, .inl (kZ, 384, .inl m_newRows)), (z_newRounds, .inl (kZ, 384, .inl m_newRounds)), (z_newCosts, .inl (kI, 64, .inl m_newCosts)), (z_newLists, .inl (kI, 384, .inl m_newLists)), (z_over, .inl (kJ, 576, .inr (.inl m_over))), (z_under, .inl (kJ, 576, .inr (.inl m_under))), (z_based, .inl (kI, 7, .inl m_based)), (z_open, .inl (kZ, 64, .inl m_open))] H → va_D A [(h0, .inr (8, [.int (nI m_bins), .ref z_kilograms, .ref z_seconds, .ref z_waySeconds, .ref z_wayCosts, .int m_load, .int m_time, .int m_vehicles, .ref z_pairs, .int m_isFound, .int m_foundBins, .int m_foundLoad, .int m_foundVehicles, .ref z_foundKilograms, .ref z_rows, .ref z_rounds, .ref z_costs, .ref z_lists, .ref z_barred, .int m_fault, .ref z_row, .int (nI l9), .ref z_newRows, .ref z_newRounds, .ref z_newCosts, .ref z_newLists, .ref z_over, .ref z_under, .ref z_based, .ref z_open])), (z_kilograms, .inl (kI, 6, .inl m_kilograms)), (z_seconds, .inl (kI, 6, .inl m_seconds)), (z_waySeconds, .inl (kI, 49, .inl m_waySeconds)), (z_wayCosts, .inl (kI, 49, .inl m_wayCosts)), (z_pairs, .inl (kI, 36, .inl m_pairs)), (z_foundKilograms, .inl (kI, 6, .inl m_foundKilograms)), (z_rows, .inl (kZ, 384, .inl m_rows)), (z_rounds, .inl (kZ, 384, .inl m_rounds)), (z_costs, .inl (kI, 64, .inl m_costs)), (z_lists, .inl (kI, 384, .inl m_lists)), (z_barred, .inl (kZ, 64, .inl m_barred)), (z_row, .inl (kI, 6, .inl (bsI rw))), (z_newRows, .inl (kZ, 384, .inl m_newRows)), (z_newRounds, .inl (kZ, 384, .inl m_newRounds)), (z_newCosts, .inl (kI, 64, .inl m_newCosts)), (z_newLists, .inl (kI, 384, .inl m_newLists)), (z_over, .inl (kJ, 576, .inr (.inl m_over))), (z_under, .inl (kJ, 576, .inr (.inl m_under))), (z_based, .inl (kI, 7, .inl m_based)), (z_open, .inl (kZ, 64, .inl m_open))] → va_S A s.heap H locs → lv_has ls 5 [(0, .ref h0), (1, .int lg), (2, .int (nI f9)), (3, .int (nI (msk rw l9))), (4, .int (nI b))] → W p l e (headSpec wM_next (rmL 1 0 0)).room s m ([.ref h0, .int lg] : List Value).toArray below meth c H locs 0 0 (MQ below (va_Qi (fun (r : Int32) (v9 : (Nat → Nat) × Nat) => nxP (nxT m_bins rw ln lg) rw r v9) (fun v9 t => va_P D rcl [(h0, .inr (8, [.int (nI m_bins), .ref z_kilograms, .ref z_seconds, .ref z_waySeconds, .ref z_wayCosts, .int m_load, .int m_time, .int m_vehicles, .ref z_pairs, .int m_isFound, .int m_foundBins, .int m_foundLoad, .int m_foundVehicles, .ref z_foundKilograms, .ref z_rows, .ref z_rounds, .ref z_costs, .ref z_lists, .ref z_barred, .int m_fault, .ref z_row, .int (nI v9.2), .ref z_newRows, .ref z_newRounds, .ref z_newCosts, .ref z_newLists, .ref z_over, .ref z_under, .ref z_based, .ref z_open])), (z_kilograms, .inl (kI, 6, .inl m_kilograms)), (z_seconds, .inl (kI, 6, .inl m_seconds)), (z_waySeconds, .inl (kI, 49, .inl m_waySeconds)), (z_wayCosts, .inl (kI, 49, .inl m_wayCosts)), (z_pairs, .inl (kI, 36, .inl m_pairs)), (z_foundKilograms, .inl (kI, 6, .inl m_foundKilograms)), (z_rows, .inl (kZ, 384, .inl m_rows)), (z_rounds, .inl (kZ, 384, .inl m_rounds)), (z_costs, .inl (kI, 64, .inl m_costs)), (z_lists, .inl (kI, 384, .inl m_lists)), (z_barred, .inl (kZ, 64, .inl m_barred)), (z_row, .inl (kI, 6, .inl (bsI v9.1))), (z_newRows, .inl (kZ, 384, .inl m_newRows)), (z_newRounds, .inl (kZ, 384, .inl m_newRounds)), (z_newCosts, .inl (kI, 64, .inl m_newCosts)), (z_newLists, .inl (kI, 384, .inl m_newLists)), (z_over, .inl (kJ, 576, .inr (.inl m_over))), (z_under, .inl (kJ, 576, .inr (.inl m_under))), (z_based, .inl (kI, 7, .inl m_based)), (z_open, .inl (kZ, 64, .inl m_open))] t.heap ∧ va_K D rcl (TY kI kJ kZ kG kH) t ∧ va_D A [(h0, .inr (8, [.int (nI m_bins), .ref z_kilograms, .ref z_seconds, .ref z_waySeconds, .ref z_wayCosts, .int m_load, .int m_time, .int m_vehicles, .ref z_pairs, .int m_isFound, .int m_foundBins, .int m_foundLoad, .int m_foundVehicles, .ref z_foundKilograms, .ref z_rows, .ref z_rounds, .ref z_costs, .ref z_lists, .ref z_barred, .int m_fault, .ref z_row, .int (nI v9.2), .ref z_newRows, .ref z_newRounds, .ref z_newCosts, .ref z_newLists, .ref z_over, .ref z_under, .ref z_based, .ref z_open])), (z_kilograms, .inl (kI, 6, .inl m_kilograms)), (z_seconds, .inl (kI, 6, .inl m_seconds)), (z_waySeconds, .inl (kI, 49, .inl m_waySeconds)), (z_wayCosts, .inl (kI, 49, .inl m_wayCosts)), (z_pairs, .inl (kI, 36, .inl m_pairs)), (z_foundKilograms, .inl (kI, 6, .inl m_foundKilograms)), (z_rows, .inl (kZ, 384, .inl m_rows)), (z_rounds, .inl (kZ, 384, .inl m_rounds)), (z_costs, .inl (kI, 64, .inl m_costs)), (z_lists, .inl (kI, 384, .inl m_lists)), (z_barred, .inl (kZ, 64, .inl m_barred)), (z_row, .inl (kI, 6, .inl (bsI v9.1))), (z_newRows, .inl (kZ, 384, .inl m_newRows)), (z_newRounds, .inl (kZ, 384, .inl m_newRounds)), (z_newCosts, .inl (kI, 64, .inl m_newCosts)), (z_newLists, .inl (kI, 384, .inl m_newLists)), (z_over, .inl (kJ, 576, .inr (.inl m_over))), (z_under, .inl (kJ, 576, .inr (.inl m_under))), (z_based, .inl (kI, 7, .inl m_based)), (z_open, .inl (kZ, 64, .inl m_open))]) A) ([.ref h0, .int lg] : List Value).toArray s 0 0 A) (F0 m 43 ls []) := by
        intro dd
        induction dd with
        | zero =>
          intro b H locs ls hm
          exact absurd hm (Nat.not_lt_zero _)
        | succ dd ihLPi =>
          intro b H locs ls hm hb1 hb2 hg hP hD hS hl
          refine lv_iload hx hb dM_next_43 (lv_at hl 4 rfl) ?_
          refine lv_aload_n hx hb dM_next_45 rfl (lv_at hl 0 rfl) ?_
          refine va_get (D := D) (cl := rcl) (ci := 8) (v := .int (nI m_bins)) (C := NM) (T := TM) (N := 30) hx hb hts (fun w h => gw_t w (uwM w h)) hown hK hP 0 rfl rfl 0 (by decide) (hts _ (gw_t _ hw630)) (fun _ h9 => h9) rfl dM_next_46 ?_
          refine lv_icmp_ge (tgt := 90) hx hb dM_next_49 (by decide) (fun c49 => ?_) (fun c49 => ?_)
          · have c49 : m_bins ≤ b := (nI_leI (a := m_bins) (b := b) (by omega) (by omega)).mp c49
            have hb9 : fst m_bins (msk rw l9) f9 = none := hg.trans (fst_none (by omega))
            refine lv_aload_n hx hb dM_next_90 rfl (lv_at hl 0 rfl) ?_
            refine va_get (D := D) (cl := rcl) (ci := 8) (v := .int (nI l9)) (C := NM) (T := TM) (N := 30) hx hb hts (fun w h => gw_t w (uwM w h)) hown hK hP 0 rfl rfl 21 (by decide) (hts _ (gw_t _ hw651)) (fun _ h9 => h9) rfl dM_next_91 ?_
            refine lv_if_ne (tgt := 99) hx hb dM_next_94 (by decide) (fun c94 => ?_) (fun c94 => ?_)
            · have c94 : ¬ l9 = 0 := mt (nI_eq (a := l9) (b := 0) (by omega) (by omega)).mpr c94
              refine lv_aload_n hx hb dM_next_99 rfl (lv_at hl 0 rfl) ?_
              refine lv_dup hx hb dM_next_100 rfl ?_
              refine va_get (D := D) (cl := rcl) (ci := 8) (v := .int (nI l9)) (C := NM) (T := TM) (N := 30) hx hb hts (fun w h => gw_t w (uwM w h)) hown hK hP 0 rfl rfl 21 (by decide) (hts _ (gw_t _ hw651)) (fun _ h9 => h9) rfl dM_next_101 ?_
              refine lv_iconst (v := 1) hx hb dM_next_104 (by decide) ?_
              refine lv_isub hx hb dM_next_105 ?_
              refine lc_i (y := nI (l9 - 1)) (pk_sub (a := l9) (b := 1) (by omega)) ?_
              refine va_put (D := D) (cl := rcl) (ci := 8) (v := .int (nI (l9 - 1))) (ty := .int) (C := NM) (T := TM) (N := 30) hx hb hts (fun w h => gw_t w (uwM w h)) tyM tyM_ok nmM hown hK hP hD hS 0 rfl rfl 21 (by decide) (hts _ (gw_t _ hw651)) (fun _ h9 => h9) rfl (by decide +kernel) (rfl) (rfl) (Nat.le_of_ble_eq_true rfl) dM_next_106 (fun H locs hP hD hS => ?_)
              have hP : va_P D rcl [(h0, .inr (8, [.int (nI m_bins), .ref z_kilograms, .ref z_seconds, .ref z_waySeconds, .ref z_wayCosts, .int m_load, .int m_time, .int m_vehicles, .ref z_pairs, .int m_isFound, .int m_foundBins, .int m_foundLoad, .int m_foundVehicles, .ref z_foundKilograms, .ref z_rows, .ref z_rounds, .ref z_costs, .ref z_lists, .ref z_barred, .int m_fault, .ref z_row, .int (nI (l9 - 1)), .ref z_newRows, .ref z_newRounds, .ref z_newCosts, .ref z_newLists, .ref z_over, .ref z_under, .ref z_based, .ref z_open])), (z_kilograms, .inl (kI, 6, .inl m_kilograms)), (z_seconds, .inl (kI, 6, .inl m_seconds)), (z_waySeconds, .inl (kI, 49, .inl m_waySeconds)), (z_wayCosts, .inl (kI, 49, .inl m_wayCosts)), (z_pairs, .inl (kI, 36, .inl m_pairs)), (z_foundKilograms, .inl (kI, 6, .inl m_foundKilograms)), (z_rows, .inl (kZ, 384, .inl m_rows)), (z_rounds, .inl (kZ, 384, .inl m_rounds)), (z_costs, .inl (kI, 64, .inl m_costs)), (z_lists, .inl (kI, 384, .inl m_lists)), (z_barred, .inl (kZ, 64, .inl m_barred)), (z_row, .inl (kI, 6, .inl (bsI rw))), (z_newRows, .inl (kZ, 384, .inl m_newRows)), (z_newRounds, .inl (kZ, 384, .inl m_newRounds)), (z_newCosts, .inl (kI, 64, .inl m_newCosts)), (z_newLists, .inl (kI, 384, .inl m_newLists)), (z_over, .inl (kJ, 576, .inr (.inl m_over))), (z_under, .inl (kJ, 576, .inr (.inl m_under))), (z_based, .inl (kI, 7, .inl m_based)), (z_open, .inl (kZ, 64, .inl m_open))] H := hP
              have hD : va_D A [(h0, .inr (8, [.int (nI m_bins), .ref z_kilograms, .ref z_seconds, .ref z_waySeconds, .ref z_wayCosts, .int m_load, .int m_time, .int m_vehicles, .ref z_pairs, .int m_isFound, .int m_foundBins, .int m_foundLoad, .int m_foundVehicles, .ref z_foundKilograms, .ref z_rows, .ref z_rounds, .ref z_costs, .ref z_lists, .ref z_barred, .int m_fault, .ref z_row, .int (nI (l9 - 1)), .ref z_newRows, .ref z_newRounds, .ref z_newCosts, .ref z_newLists, .ref z_over, .ref z_under, .ref z_based, .ref z_open])), (z_kilograms, .inl (kI, 6, .inl m_kilograms)), (z_seconds, .inl (kI, 6, .inl m_seconds)), (z_waySeconds, .inl (kI, 49, .inl m_waySeconds)), (z_wayCosts, .inl (kI, 49, .inl m_wayCosts)), (z_pairs, .inl (kI, 36, .inl m_pairs)), (z_foundKilograms, .inl (kI, 6, .inl m_foundKilograms)), (z_rows, .inl (kZ, 384, .inl m_rows)), (z_rounds, .inl (kZ, 384, .inl m_rounds)), (z_costs, .inl (kI, 64, .inl m_costs)), (z_lists, .inl (kI, 384, .inl m_lists)), (z_barred, .inl (kZ, 64, .inl m_barred)), (z_row, .inl (kI, 6, .inl (bsI rw))), (z_newRows, .inl (kZ, 384, .inl m_newRows)), (z_newRounds, .inl (kZ, 384, .inl m_newRounds)), (z_newCosts, .inl (kI, 64, .inl m_newCosts)), (z_newLists, .inl (kI, 384, .inl m_newLists)), (z_over, .inl (kJ, 576, .inr (.inl m_over))), (z_under, .inl (kJ, 576, .inr (.inl m_under))), (z_based, .inl (kI, 7, .inl m_based)), (z_open, .inl (kZ, 64, .inl m_open))] := hD
              refine lv_aload_n hx hb dM_next_109 rfl (lv_at hl 0 rfl) ?_
              refine va_get (D := D) (cl := rcl) (ci := 8) (v := .ref z_row) (C := NM) (T := TM) (N := 30) hx hb hts (fun w h => gw_t w (uwM w h)) hown hK hP 0 rfl rfl 20 (by decide) (hts _ (gw_t _ hw650)) (fun _ h9 => h9) rfl dM_next_110 ?_
              refine lv_aload_n hx hb dM_next_113 rfl (lv_at hl 0 rfl) ?_
              refine va_get (D := D) (cl := rcl) (ci := 8) (v := .int (nI (l9 - 1))) (C := NM) (T := TM) (N := 30) hx hb hts (fun w h => gw_t w (uwM w h)) hown hK hP 0 rfl rfl 21 (by decide) (hts _ (gw_t _ hw651)) (fun _ h9 => h9) rfl dM_next_114 ?_
              have hk6 := hrw (l9 - 1) (by omega)
              refine ra_i (k := l9 - 1) hx hb hK hP 12 0 rfl rfl (by omega) (by omega) dM_next_117 ?_
              refine lc_i (y := nI (rw (l9 - 1))) (rfl) ?_
              refine lv_iconst (v := 1) hx hb dM_next_118 (by decide) ?_
              refine lv_iadd hx hb dM_next_119 ?_
              refine lc_i (y := nI (rw (l9 - 1) + 1)) (nI_add (rw (l9 - 1)) 1) ?_
              refine lv_istore_n (lv' := [(2, .int (nI (rw (l9 - 1) + 1))), (0, .ref h0), (1, .int lg), (3, .int (nI (msk rw l9))), (4, .int (nI b))]) hx hb dM_next_120 rfl hl (by decide) rfl (fun ls hl => ?_)
              refine lv_goto (tgt := 35) hx hb dM_next_121 (by decide) ?_
              exact ihLP35 (l9 - 1) (rw (l9 - 1) + 1) _ _ ls (by omega) (by omega) (by omega) (hf.trans (nxL_pop (by omega) hb9)) hP hD hS (lv_sub hl [1, 2, 0] rfl)
            · have c94 : l9 = 0 := (nI_eq (a := l9) (b := 0) (by omega) (by omega)).mp c94
              refine lv_iconst (v := 0) hx hb dM_next_97 (by decide) ?_
              have h90 : l9 = 0 := by omega
              subst h90
              refine W.widen (k := 0) (n := 0) (by omega) (by omega) ?_
              exact W.zret (v := 0) (ty := .boolean) hx hb hr (by decide) (fun t ht9 hW9 => ⟨⟨_, (rw, 0), rfl, by rw [hf, nxL_end hb9]; exact ⟨rfl, rfl⟩, by rw [ht9]; exact hP, va_K.moved hW9.alike hK, hD⟩, hS.F ht9⟩) hS.2.2 dM_next_98
          · have c49 : ¬ m_bins ≤ b := mt (nI_leI (a := m_bins) (b := b) (by omega) (by omega)).mpr c49
            refine lv_iload_n hx hb dM_next_52 rfl (lv_at hl 3 rfl) ?_
            refine lv_iload hx hb dM_next_53 (lv_at hl 4 rfl) ?_
            refine vp_callSi (W.runS (As := [.int (nI (msk rw l9)), .int (nI b)]) (rest := []) ⟨hx, hb, hml, hown, hts⟩ (cM_has l (msk rw l9) b (by omega) (by omega)) ⟨cB 2 hts hw767 hw8 hw765 (by decide +kernel) ⟨Nat.le_of_ble_eq_true rfl, Nat.le_of_ble_eq_true rfl⟩ rfl rfl, hts _ (gw_t _ hw766)⟩ ⟨fun a U g mk q => ⟨q.1, trivial⟩, fun U hU hW => ⟨rfl, trivial⟩⟩ rfl rfl hl.1 rfl (lv_room (Nat.le_of_ble_eq_true rfl)) dM_next_55 ⟨Nat.le_of_ble_eq_true rfl, Nat.le_of_ble_eq_true rfl⟩) (fun r55 hr55 => ?_)
            refine lv_if_ne (tgt := 84) hx hb dM_next_58 (by decide) (fun c58 => ?_) (fun c58 => ?_)
            · have w58 := w_t hr55 c58
              refine lv_iinc (v := nI (b + 1)) (lv' := [(4, .int (nI (b + 1))), (0, .ref h0), (1, .int lg), (2, .int (nI f9)), (3, .int (nI (msk rw l9)))]) hx hb dM_next_84 hl (k := 4) rfl (nI_add b 1) (by decide) rfl (fun ls hl => ?_)
              refine lv_goto (tgt := 43) hx hb dM_next_87 (by decide) ?_
              exact ihLPi (b + 1) _ _ ls (by omega) (by omega) (by omega) (hg.trans (fst_step (by omega) w58)) hP hD hS (lv_sub hl [1, 2, 3, 4, 0] rfl)
            · have w58 := w_f hr55 c58
              refine lv_aload_n hx hb dM_next_61 rfl (lv_at hl 0 rfl) ?_
              refine va_get (D := D) (cl := rcl) (ci := 8) (v := .ref z_row) (C := NM) (T := TM) (N := 30) hx hb hts (fun w h => gw_t w (uwM w h)) hown hK hP 0 rfl rfl 20 (by decide) (hts _ (gw_t _ hw650)) (fun _ h9 => h9) rfl dM_next_62 ?_
              refine lv_aload_n hx hb dM_next_65 rfl (lv_at hl 0 rfl) ?_
              refine va_get (D := D) (cl := rcl) (ci := 8) (v := .int (nI l9)) (C := NM) (T := TM) (N := 30) hx hb hts (fun w h => gw_t w (uwM w h)) hown hK hP 0 rfl rfl 21 (by decide) (hts _ (gw_t _ hw651)) (fun _ h9 => h9) rfl dM_next_66 ?_
              have hsome : nxT m_bins rw ln lg = some (l9, b) := hf.trans (nxL_hit (hg.trans (fst_hit (by omega) w58)))
              have hl6 := hok l9 b hsome
              refine lv_iload hx hb dM_next_69 (lv_at hl 4 rfl) ?_
              refine wa_i (k := l9) hx hb hK hP hD hS 12 0 rfl rfl (by omega) (by omega) dM_next_71 (fun H locs hP hD hS => ?_)
              have hP : va_P D rcl [(h0, .inr (8, [.int (nI m_bins), .ref z_kilograms, .ref z_seconds, .ref z_waySeconds, .ref z_wayCosts, .int m_load, .int m_time, .int m_vehicles, .ref z_pairs, .int m_isFound, .int m_foundBins, .int m_foundLoad, .int m_foundVehicles, .ref z_foundKilograms, .ref z_rows, .ref z_rounds, .ref z_costs, .ref z_lists, .ref z_barred, .int m_fault, .ref z_row, .int (nI l9), .ref z_newRows, .ref z_newRounds, .ref z_newCosts, .ref z_newLists, .ref z_over, .ref z_under, .ref z_based, .ref z_open])), (z_kilograms, .inl (kI, 6, .inl m_kilograms)), (z_seconds, .inl (kI, 6, .inl m_seconds)), (z_waySeconds, .inl (kI, 49, .inl m_waySeconds)), (z_wayCosts, .inl (kI, 49, .inl m_wayCosts)), (z_pairs, .inl (kI, 36, .inl m_pairs)), (z_foundKilograms, .inl (kI, 6, .inl m_foundKilograms)), (z_rows, .inl (kZ, 384, .inl m_rows)), (z_rounds, .inl (kZ, 384, .inl m_rounds)), (z_costs, .inl (kI, 64, .inl m_costs)), (z_lists, .inl (kI, 384, .inl m_lists)), (z_barred, .inl (kZ, 64, .inl m_barred)), (z_row, .inl (kI, 6, .inl (upd (bsI rw) l9 (nI b)))), (z_newRows, .inl (kZ, 384, .inl m_newRows)), (z_newRounds, .inl (kZ, 384, .inl m_newRounds)), (z_newCosts, .inl (kI, 64, .inl m_newCosts)), (z_newLists, .inl (kI, 384, .inl m_newLists)), (z_over, .inl (kJ, 576, .inr (.inl m_over))), (z_under, .inl (kJ, 576, .inr (.inl m_under))), (z_based, .inl (kI, 7, .inl m_based)), (z_open, .inl (kZ, 64, .inl m_open))] H := hP
              have hD : va_D A [(h0, .inr (8, [.int (nI m_bins), .ref z_kilograms, .ref z_seconds, .ref z_waySeconds, .ref z_wayCosts, .int m_load, .int m_time, .int m_vehicles, .ref z_pairs, .int m_isFound, .int m_foundBins, .int m_foundLoad, .int m_foundVehicles, .ref z_foundKilograms, .ref z_rows, .ref z_rounds, .ref z_costs, .ref z_lists, .ref z_barred, .int m_fault, .ref z_row, .int (nI l9), .ref z_newRows, .ref z_newRounds, .ref z_newCosts, .ref z_newLists, .ref z_over, .ref z_under, .ref z_based, .ref z_open])), (z_kilograms, .inl (kI, 6, .inl m_kilograms)), (z_seconds, .inl (kI, 6, .inl m_seconds)), (z_waySeconds, .inl (kI, 49, .inl m_waySeconds)), (z_wayCosts, .inl (kI, 49, .inl m_wayCosts)), (z_pairs, .inl (kI, 36, .inl m_pairs)), (z_foundKilograms, .inl (kI, 6, .inl m_foundKilograms)), (z_rows, .inl (kZ, 384, .inl m_rows)), (z_rounds, .inl (kZ, 384, .inl m_rounds)), (z_costs, .inl (kI, 64, .inl m_costs)), (z_lists, .inl (kI, 384, .inl m_lists)), (z_barred, .inl (kZ, 64, .inl m_barred)), (z_row, .inl (kI, 6, .inl (upd (bsI rw) l9 (nI b)))), (z_newRows, .inl (kZ, 384, .inl m_newRows)), (z_newRounds, .inl (kZ, 384, .inl m_newRounds)), (z_newCosts, .inl (kI, 64, .inl m_newCosts)), (z_newLists, .inl (kI, 384, .inl m_newLists)), (z_over, .inl (kJ, 576, .inr (.inl m_over))), (z_under, .inl (kJ, 576, .inr (.inl m_under))), (z_based, .inl (kI, 7, .inl m_based)), (z_open, .inl (kZ, 64, .inl m_open))] := hD
              obtain ⟨hP, hD⟩ := fn_i hP hD 12 rfl (bsI (upN rw l9 b)) (fun j _ => bsI_up _ _ _ j)
              have hP : va_P D rcl [(h0, .inr (8, [.int (nI m_bins), .ref z_kilograms, .ref z_seconds, .ref z_waySeconds, .ref z_wayCosts, .int m_load, .int m_time, .int m_vehicles, .ref z_pairs, .int m_isFound, .int m_foundBins, .int m_foundLoad, .int m_foundVehicles, .ref z_foundKilograms, .ref z_rows, .ref z_rounds, .ref z_costs, .ref z_lists, .ref z_barred, .int m_fault, .ref z_row, .int (nI l9), .ref z_newRows, .ref z_newRounds, .ref z_newCosts, .ref z_newLists, .ref z_over, .ref z_under, .ref z_based, .ref z_open])), (z_kilograms, .inl (kI, 6, .inl m_kilograms)), (z_seconds, .inl (kI, 6, .inl m_seconds)), (z_waySeconds, .inl (kI, 49, .inl m_waySeconds)), (z_wayCosts, .inl (kI, 49, .inl m_wayCosts)), (z_pairs, .inl (kI, 36, .inl m_pairs)), (z_foundKilograms, .inl (kI, 6, .inl m_foundKilograms)), (z_rows, .inl (kZ, 384, .inl m_rows)), (z_rounds, .inl (kZ, 384, .inl m_rounds)), (z_costs, .inl (kI, 64, .inl m_costs)), (z_lists, .inl (kI, 384, .inl m_lists)), (z_barred, .inl (kZ, 64, .inl m_barred)), (z_row, .inl (kI, 6, .inl (bsI (upN rw l9 b)))), (z_newRows, .inl (kZ, 384, .inl m_newRows)), (z_newRounds, .inl (kZ, 384, .inl m_newRounds)), (z_newCosts, .inl (kI, 64, .inl m_newCosts)), (z_newLists, .inl (kI, 384, .inl m_newLists)), (z_over, .inl (kJ, 576, .inr (.inl m_over))), (z_under, .inl (kJ, 576, .inr (.inl m_under))), (z_based, .inl (kI, 7, .inl m_based)), (z_open, .inl (kZ, 64, .inl m_open))] H := hP
              have hD : va_D A [(h0, .inr (8, [.int (nI m_bins), .ref z_kilograms, .ref z_seconds, .ref z_waySeconds, .ref z_wayCosts, .int m_load, .int m_time, .int m_vehicles, .ref z_pairs, .int m_isFound, .int m_foundBins, .int m_foundLoad, .int m_foundVehicles, .ref z_foundKilograms, .ref z_rows, .ref z_rounds, .ref z_costs, .ref z_lists, .ref z_barred, .int m_fault, .ref z_row, .int (nI l9), .ref z_newRows, .ref z_newRounds, .ref z_newCosts, .ref z_newLists, .ref z_over, .ref z_under, .ref z_based, .ref z_open])), (z_kilograms, .inl (kI, 6, .inl m_kilograms)), (z_seconds, .inl (kI, 6, .inl m_seconds)), (z_waySeconds, .inl (kI, 49, .inl m_waySeconds)), (z_wayCosts, .inl (kI, 49, .inl m_wayCosts)), (z_pairs, .inl (kI, 36, .inl m_pairs)), (z_foundKilograms, .inl (kI, 6, .inl m_foundKilograms)), (z_rows, .inl (kZ, 384, .inl m_rows)), (z_rounds, .inl (kZ, 384, .inl m_rounds)), (z_costs, .inl (kI, 64, .inl m_costs)), (z_lists, .inl (kI, 384, .inl m_lists)), (z_barred, .inl (kZ, 64, .inl m_barred)), (z_row, .inl (kI, 6, .inl (bsI (upN rw l9 b)))), (z_newRows, .inl (kZ, 384, .inl m_newRows)), (z_newRounds, .inl (kZ, 384, .inl m_newRounds)), (z_newCosts, .inl (kI, 64, .inl m_newCosts)), (z_newLists, .inl (kI, 384, .inl m_newLists)), (z_over, .inl (kJ, 576, .inr (.inl m_over))), (z_under, .inl (kJ, 576, .inr (.inl m_under))), (z_based, .inl (kI, 7, .inl m_based)), (z_open, .inl (kZ, 64, .inl m_open))] := hD
              refine lv_aload_n hx hb dM_next_72 rfl (lv_at hl 0 rfl) ?_
              refine lv_dup hx hb dM_next_73 rfl ?_
              refine va_get (D := D) (cl := rcl) (ci := 8) (v := .int (nI l9)) (C := NM) (T := TM) (N := 30) hx hb hts (fun w h => gw_t w (uwM w h)) hown hK hP 0 rfl rfl 21 (by decide) (hts _ (gw_t _ hw651)) (fun _ h9 => h9) rfl dM_next_74 ?_
              refine lv_iconst (v := 1) hx hb dM_next_77 (by decide) ?_
              refine lv_iadd hx hb dM_next_78 ?_
              refine lc_i (y := nI (l9 + 1)) (nI_add l9 1) ?_
              refine va_put (D := D) (cl := rcl) (ci := 8) (v := .int (nI (l9 + 1))) (ty := .int) (C := NM) (T := TM) (N := 30) hx hb hts (fun w h => gw_t w (uwM w h)) tyM tyM_ok nmM hown hK hP hD hS 0 rfl rfl 21 (by decide) (hts _ (gw_t _ hw651)) (fun _ h9 => h9) rfl (by decide +kernel) (rfl) (rfl) (Nat.le_of_ble_eq_true rfl) dM_next_79 (fun H locs hP hD hS => ?_)
              have hP : va_P D rcl [(h0, .inr (8, [.int (nI m_bins), .ref z_kilograms, .ref z_seconds, .ref z_waySeconds, .ref z_wayCosts, .int m_load, .int m_time, .int m_vehicles, .ref z_pairs, .int m_isFound, .int m_foundBins, .int m_foundLoad, .int m_foundVehicles, .ref z_foundKilograms, .ref z_rows, .ref z_rounds, .ref z_costs, .ref z_lists, .ref z_barred, .int m_fault, .ref z_row, .int (nI (l9 + 1)), .ref z_newRows, .ref z_newRounds, .ref z_newCosts, .ref z_newLists, .ref z_over, .ref z_under, .ref z_based, .ref z_open])), (z_kilograms, .inl (kI, 6, .inl m_kilograms)), (z_seconds, .inl (kI, 6, .inl m_seconds)), (z_waySeconds, .inl (kI, 49, .inl m_waySeconds)), (z_wayCosts, .inl (kI, 49, .inl m_wayCosts)), (z_pairs, .inl (kI, 36, .inl m_pairs)), (z_foundKilograms, .inl (kI, 6, .inl m_foundKilograms)), (z_rows, .inl (kZ, 384, .inl m_rows)), (z_rounds, .inl (kZ, 384, .inl m_rounds)), (z_costs, .inl (kI, 64, .inl m_costs)), (z_lists, .inl (kI, 384, .inl m_lists)), (z_barred, .inl (kZ, 64, .inl m_barred)), (z_row, .inl (kI, 6, .inl (bsI (upN rw l9 b)))), (z_newRows, .inl (kZ, 384, .inl m_newRows)), (z_newRounds, .inl (kZ, 384, .inl m_newRounds)), (z_newCosts, .inl (kI, 64, .inl m_newCosts)), (z_newLists, .inl (kI, 384, .inl m_newLists)), (z_over, .inl (kJ, 576, .inr (.inl m_over))), (z_under, .inl (kJ, 576, .inr (.inl m_under))), (z_based, .inl (kI, 7, .inl m_based)), (z_open, .inl (kZ, 64, .inl m_open))] H := hP
              have hD : va_D A [(h0, .inr (8, [.int (nI m_bins), .ref z_kilograms, .ref z_seconds, .ref z_waySeconds, .ref z_wayCosts, .int m_load, .int m_time, .int m_vehicles, .ref z_pairs, .int m_isFound, .int m_foundBins, .int m_foundLoad, .int m_foundVehicles, .ref z_foundKilograms, .ref z_rows, .ref z_rounds, .ref z_costs, .ref z_lists, .ref z_barred, .int m_fault, .ref z_row, .int (nI (l9 + 1)), .ref z_newRows, .ref z_newRounds, .ref z_newCosts, .ref z_newLists, .ref z_over, .ref z_under, .ref z_based, .ref z_open])), (z_kilograms, .inl (kI, 6, .inl m_kilograms)), (z_seconds, .inl (kI, 6, .inl m_seconds)), (z_waySeconds, .inl (kI, 49, .inl m_waySeconds)), (z_wayCosts, .inl (kI, 49, .inl m_wayCosts)), (z_pairs, .inl (kI, 36, .inl m_pairs)), (z_foundKilograms, .inl (kI, 6, .inl m_foundKilograms)), (z_rows, .inl (kZ, 384, .inl m_rows)), (z_rounds, .inl (kZ, 384, .inl m_rounds)), (z_costs, .inl (kI, 64, .inl m_costs)), (z_lists, .inl (kI, 384, .inl m_lists)), (z_barred, .inl (kZ, 64, .inl m_barred)), (z_row, .inl (kI, 6, .inl (bsI (upN rw l9 b)))), (z_newRows, .inl (kZ, 384, .inl m_newRows)), (z_newRounds, .inl (kZ, 384, .inl m_newRounds)), (z_newCosts, .inl (kI, 64, .inl m_newCosts)), (z_newLists, .inl (kI, 384, .inl m_newLists)), (z_over, .inl (kJ, 576, .inr (.inl m_over))), (z_under, .inl (kJ, 576, .inr (.inl m_under))), (z_based, .inl (kI, 7, .inl m_based)), (z_open, .inl (kZ, 64, .inl m_open))] := hD
              refine lv_iconst (v := 1) hx hb dM_next_82 (by decide) ?_
              refine W.widen (k := 0) (n := 0) (by omega) (by omega) ?_
              exact W.zret (v := 1) (ty := .boolean) hx hb hr (by decide) (fun t ht9 hW9 => ⟨⟨_, (upN rw l9 b, l9 + 1), rfl, by rw [hsome]; exact ⟨rfl, rfl⟩, by rw [ht9]; exact hP, va_K.moved hW9.alike hK, hD⟩, hS.F ht9⟩) hS.2.2 dM_next_83
      refine lv_istore (lv' := [(4, .int (nI f9)), (3, .int (nI (msk rw l9))), (0, .ref h0), (1, .int lg), (2, .int (nI f9))]) hx hb dM_next_41 hl (by decide) rfl (fun ls hl => ?_)
      exact LPi _ f9 _ _ ls (Nat.lt_succ_self _) (by omega) (by omega) rfl hP hD hS (lv_sub hl [2, 3, 4, 1, 0] rfl)
  refine lv_iconst (v := 0) hx hb dM_next_0 (by decide) ?_
  refine lv_istore_n (lv' := [(2, .int 0), (0, .ref h0), (1, .int lg)]) hx hb dM_next_1 rfl hl (by decide) rfl (fun ls hl => ?_)
  refine lv_iload_n hx hb dM_next_2 rfl (lv_at hl 2 rfl) ?_
  refine lv_if_ne (tgt := 35) hx hb dM_next_3 (by decide) (fun c3 => ?_) (fun c3 => ?_)
  · exact LP35 _ ln 0 _ _ ls (Nat.lt_succ_self _) (by omega) (by omega) (by unfold nxT; rw [if_neg (fun q => q.1 c3)]) hP hD hS (lv_sub hl [1, 2, 0] rfl)
  · refine lv_aload_n hx hb dM_next_6 rfl (lv_at hl 1 rfl) ?_
    refine va_get (D := D) (cl := rcl) (ci := 8) (v := .int (nI ln)) (C := NM) (T := TM) (N := 30) hx hb hts (fun w h => gw_t w (uwM w h)) hown hK hP 0 rfl rfl 21 (by decide) (hts _ (gw_t _ hw651)) (fun _ h9 => h9) rfl dM_next_7 ?_
    refine lv_if_le (tgt := 35) hx hb dM_next_10 (by decide) (fun c10 => ?_) (fun c10 => ?_)
    · have c10 : ln ≤ 0 := (nI_leI (a := ln) (b := 0) (by omega) (by omega)).mp c10
      exact LP35 _ ln 0 _ _ ls (Nat.lt_succ_self _) (by omega) (by omega) (by unfold nxT; rw [if_neg (fun q => absurd q.2 (by omega))]) hP hD hS (lv_sub hl [1, 2, 0] rfl)
    · have c10 : ¬ ln ≤ 0 := mt (nI_leI (a := ln) (b := 0) (by omega) (by omega)).mpr c10
      refine lv_aload_n hx hb dM_next_13 rfl (lv_at hl 1 rfl) ?_
      refine lv_dup hx hb dM_next_14 rfl ?_
      refine va_get (D := D) (cl := rcl) (ci := 8) (v := .int (nI ln)) (C := NM) (T := TM) (N := 30) hx hb hts (fun w h => gw_t w (uwM w h)) hown hK hP 0 rfl rfl 21 (by decide) (hts _ (gw_t _ hw651)) (fun _ h9 => h9) rfl dM_next_15 ?_
      refine lv_iconst (v := 1) hx hb dM_next_18 (by decide) ?_
      refine lv_isub hx hb dM_next_19 ?_
      refine lc_i (y := nI (ln - 1)) (pk_sub (a := ln) (b := 1) (by omega)) ?_
      refine va_put (D := D) (cl := rcl) (ci := 8) (v := .int (nI (ln - 1))) (ty := .int) (C := NM) (T := TM) (N := 30) hx hb hts (fun w h => gw_t w (uwM w h)) tyM tyM_ok nmM hown hK hP hD hS 0 rfl rfl 21 (by decide) (hts _ (gw_t _ hw651)) (fun _ h9 => h9) rfl (by decide +kernel) (rfl) (rfl) (Nat.le_of_ble_eq_true rfl) dM_next_20 (fun H locs hP hD hS => ?_)
      have hP : va_P D rcl [(h0, .inr (8, [.int (nI m_bins), .ref z_kilograms, .ref z_seconds, .ref z_waySeconds, .ref z_wayCosts, .int m_load, .int m_time, .int m_vehicles, .ref z_pairs, .int m_isFound, .int m_foundBins, .int m_foundLoad, .int m_foundVehicles, .ref z_foundKilograms, .ref z_rows, .ref z_rounds, .ref z_costs, .ref z_lists, .ref z_barred, .int m_fault, .ref z_row, .int (nI (ln - 1)), .ref z_newRows, .ref z_newRounds, .ref z_newCosts, .ref z_newLists, .ref z_over, .ref z_under, .ref z_based, .ref z_open])), (z_kilograms, .inl (kI, 6, .inl m_kilograms)), (z_seconds, .inl (kI, 6, .inl m_seconds)), (z_waySeconds, .inl (kI, 49, .inl m_waySeconds)), (z_wayCosts, .inl (kI, 49, .inl m_wayCosts)), (z_pairs, .inl (kI, 36, .inl m_pairs)), (z_foundKilograms, .inl (kI, 6, .inl m_foundKilograms)), (z_rows, .inl (kZ, 384, .inl m_rows)), (z_rounds, .inl (kZ, 384, .inl m_rounds)), (z_costs, .inl (kI, 64, .inl m_costs)), (z_lists, .inl (kI, 384, .inl m_lists)), (z_barred, .inl (kZ, 64, .inl m_barred)), (z_row, .inl (kI, 6, .inl (bsI rw))), (z_newRows, .inl (kZ, 384, .inl m_newRows)), (z_newRounds, .inl (kZ, 384, .inl m_newRounds)), (z_newCosts, .inl (kI, 64, .inl m_newCosts)), (z_newLists, .inl (kI, 384, .inl m_newLists)), (z_over, .inl (kJ, 576, .inr (.inl m_over))), (z_under, .inl (kJ, 576, .inr (.inl m_under))), (z_based, .inl (kI, 7, .inl m_based)), (z_open, .inl (kZ, 64, .inl m_open))] H := hP
      have hD : va_D A [(h0, .inr (8, [.int (nI m_bins), .ref z_kilograms, .ref z_seconds, .ref z_waySeconds, .ref z_wayCosts, .int m_load, .int m_time, .int m_vehicles, .ref z_pairs, .int m_isFound, .int m_foundBins, .int m_foundLoad, .int m_foundVehicles, .ref z_foundKilograms, .ref z_rows, .ref z_rounds, .ref z_costs, .ref z_lists, .ref z_barred, .int m_fault, .ref z_row, .int (nI (ln - 1)), .ref z_newRows, .ref z_newRounds, .ref z_newCosts, .ref z_newLists, .ref z_over, .ref z_under, .ref z_based, .ref z_open])), (z_kilograms, .inl (kI, 6, .inl m_kilograms)), (z_seconds, .inl (kI, 6, .inl m_seconds)), (z_waySeconds, .inl (kI, 49, .inl m_waySeconds)), (z_wayCosts, .inl (kI, 49, .inl m_wayCosts)), (z_pairs, .inl (kI, 36, .inl m_pairs)), (z_foundKilograms, .inl (kI, 6, .inl m_foundKilograms)), (z_rows, .inl (kZ, 384, .inl m_rows)), (z_rounds, .inl (kZ, 384, .inl m_rounds)), (z_costs, .inl (kI, 64, .inl m_costs)), (z_lists, .inl (kI, 384, .inl m_lists)), (z_barred, .inl (kZ, 64, .inl m_barred)), (z_row, .inl (kI, 6, .inl (bsI rw))), (z_newRows, .inl (kZ, 384, .inl m_newRows)), (z_newRounds, .inl (kZ, 384, .inl m_newRounds)), (z_newCosts, .inl (kI, 64, .inl m_newCosts)), (z_newLists, .inl (kI, 384, .inl m_newLists)), (z_over, .inl (kJ, 576, .inr (.inl m_over))), (z_under, .inl (kJ, 576, .inr (.inl m_under))), (z_based, .inl (kI, 7, .inl m_based)), (z_open, .inl (kZ, 64, .inl m_open))] := hD
      refine lv_aload_n hx hb dM_next_23 rfl (lv_at hl 1 rfl) ?_
      refine va_get (D := D) (cl := rcl) (ci := 8) (v := .ref z_row) (C := NM) (T := TM) (N := 30) hx hb hts (fun w h => gw_t w (uwM w h)) hown hK hP 0 rfl rfl 20 (by decide) (hts _ (gw_t _ hw650)) (fun _ h9 => h9) rfl dM_next_24 ?_
      refine lv_aload_n hx hb dM_next_27 rfl (lv_at hl 1 rfl) ?_
      refine va_get (D := D) (cl := rcl) (ci := 8) (v := .int (nI (ln - 1))) (C := NM) (T := TM) (N := 30) hx hb hts (fun w h => gw_t w (uwM w h)) hown hK hP 0 rfl rfl 21 (by decide) (hts _ (gw_t _ hw651)) (fun _ h9 => h9) rfl dM_next_28 ?_
      have hk6 := hrw (ln - 1) (by omega)
      refine ra_i (k := ln - 1) hx hb hK hP 12 0 rfl rfl (by omega) (by omega) dM_next_31 ?_
      refine lc_i (y := nI (rw (ln - 1))) (rfl) ?_
      refine lv_iconst (v := 1) hx hb dM_next_32 (by decide) ?_
      refine lv_iadd hx hb dM_next_33 ?_
      refine lc_i (y := nI (rw (ln - 1) + 1)) (nI_add (rw (ln - 1)) 1) ?_
      refine lv_istore_n (lv' := [(2, .int (nI (rw (ln - 1) + 1))), (0, .ref h0), (1, .int lg)]) hx hb dM_next_34 rfl hl (by decide) rfl (fun ls hl => ?_)
      exact LP35 _ (ln - 1) (rw (ln - 1) + 1) _ _ ls (Nat.lt_succ_self _) (by omega) (by omega) (by unfold nxT; rw [if_pos ⟨by simpa using c3, by omega⟩]) hP hD hS (lv_sub hl [1, 2, 0] rfl)
