/-! the reference: common, all, goal -/
set_option maxHeartbeats 4000000 in
set_option maxRecDepth 100000 in
theorem cM_common (l : Launch) (a : Int64) (b : Int64) (i : Nat) (j : Nat) (ha : (if a < 0 then -a else a) = lN i) (hb9 : b = lN j) (hi : i < 2 ^ 63) (hj : j < 2 ^ 63) : Met l yM_common wM_common (rmL 0 0 0) (va_Pc [.long a, .long b] (fun U => True)) (vp_Sl (fun r : Int64 => r = lN (Nat.gcd i j))) 0 0 (fun _ => False) := by
  refine Met.ofW (cc := bM_common) (maxL := 10) (ret := (some .long)) (by decide) rfl ?_
  intro p e s m args below meth c s₁ B hml hv
  obtain ⟨rfl, hv⟩ := hv
  have hx := B.exec
  have hb := B.bytes
  have hr := B.returns
  have hts := atoms_spec (ws := wM_common) B.pre
  have hown : s.vm.findClass NM = some m.cls := findClass_of_methodNamed B.named
  have hlocks := B.notSynchronized
  have hl := lv_entry ([.long a, .long b]) (n := 10) (Nat.le_of_ble_eq_true rfl)
  rw [lg_entry_eq]
  generalize (lg_sl ([.long a, .long b]) ++ List.replicate (10 - (lg_sl ([.long a, .long b])).length) Slot.unset).toArray = ls at hl ⊢
  have hl : lv_has ls 10 [(0, .long a), (2, .long b)] := hl
  have LP17 : ∀ (dd : Nat) (xx : Nat) (yy : Nat) (ls : Array Slot), xx < dd → (xx < 2 ^ 63) → (yy < 2 ^ 63) → (Nat.gcd i j = Nat.gcd xx yy) → lv_has ls 10 [(0, .long a), (2, .long b), (4, .long (lN xx)), (6, .long (lN yy))] → W p l e (headSpec wM_common (rmL 0 0 0)).room s m ([.long a, .long b] : List Value).toArray below meth c s.heap [] 0 0 (MQ below (vp_Sl (fun r : Int64 => r = lN (Nat.gcd i j))) ([.long a, .long b] : List Value).toArray s 0 0 (fun _ => False)) (F0 m 17 ls []) := by
    intro dd
    induction dd with
    | zero =>
      intro xx yy ls hm
      exact absurd hm (Nat.not_lt_zero _)
    | succ dd ih =>
      intro xx yy ls hm hx9 hy9 hg hl
      refine lv_lload hx hb dM_common_17 (lv_at hl 2 rfl) ?_
      refine lv_lconst (v := 0) hx hb dM_common_19 (by decide) ?_
      refine W.lcmp hx hb dM_common_20 ?_
      refine lv_if_eq (tgt := 42) hx hb dM_common_21 (by decide) (fun c21 => ?_) (fun c21 => ?_)
      · have c21 := (lg_cmp_eq (lN xx) 0).mp c21
        have hx0 : xx = 0 := (pk_lEQ hx9 (by decide)).mp c21
        refine lv_lload hx hb dM_common_42 (lv_at hl 3 rfl) ?_
        exact W.lret (v := lN yy) hx hb hr (fun t ht9 hW9 => ⟨_, rfl, by rw [hg, hx0, Nat.gcd_zero_left], ht9⟩) t_nil dM_common_44
      · have c21 := mt (lg_cmp_eq (lN xx) 0).mpr c21
        have hx0 : 0 < xx := Nat.pos_of_ne_zero (fun q => c21 (by rw [q]; rfl))
        refine lv_lload hx hb dM_common_24 (lv_at hl 3 rfl) ?_
        refine lv_lload hx hb dM_common_26 (lv_at hl 2 rfl) ?_
        refine lv_lrem hx hb dM_common_28 (fun q => c21 q) ?_
        refine lc_l (y := lN (yy % xx)) (pk_lRem hy9 hx0 hx9) ?_
        refine lv_lstore (lv' := [(8, .long (lN (yy % xx))), (0, .long a), (2, .long b), (4, .long (lN xx)), (6, .long (lN yy))]) hx hb dM_common_29 hl (by decide) rfl (fun ls hl => ?_)
        refine lv_lload hx hb dM_common_31 (lv_at hl 3 rfl) ?_
        refine lv_lstore (lv' := [(6, .long (lN xx)), (8, .long (lN (yy % xx))), (0, .long a), (2, .long b), (4, .long (lN xx))]) hx hb dM_common_33 hl (by decide) rfl (fun ls hl => ?_)
        refine lv_lload hx hb dM_common_35 (lv_at hl 1 rfl) ?_
        refine lv_lstore (lv' := [(4, .long (lN (yy % xx))), (6, .long (lN xx)), (8, .long (lN (yy % xx))), (0, .long a), (2, .long b)]) hx hb dM_common_37 hl (by decide) rfl (fun ls hl => ?_)
        refine lv_goto (tgt := 17) hx hb dM_common_39 (by decide) ?_
        exact ih (yy % xx) xx ls (by have := Nat.mod_lt yy (show 0 < xx by omega); omega) (Nat.lt_trans (Nat.mod_lt _ (by omega)) hx9) hx9 (by rw [hg, Nat.gcd_rec xx yy]) (lv_sub hl [3, 4, 0, 1] rfl)
  refine lv_lload_n hx hb dM_common_0 rfl (lv_at hl 0 rfl) ?_
  refine lv_lconst (v := 0) hx hb dM_common_1 (by decide) ?_
  refine W.lcmp hx hb dM_common_2 ?_
  refine lv_if_ge (tgt := 11) hx hb dM_common_3 (by decide) (fun c3 => ?_) (fun c3 => ?_)
  · have c3 := (lg_cmp_ge a 0).mp c3
    refine lv_lload_n hx hb dM_common_11 rfl (lv_at hl 0 rfl) ?_
    refine lc_l (y := lN i) (by rw [← ha, if_neg (Int64.not_lt.mpr c3)]) ?_
    refine lv_lstore (lv' := [(4, .long (lN i)), (0, .long a), (2, .long b)]) hx hb dM_common_12 hl (by decide) rfl (fun ls hl => ?_)
    refine W.eq (g2 := F0 m 14 ls []) rfl ?_
    refine lv_lload_n hx hb dM_common_14 rfl (lv_at hl 2 rfl) ?_
    refine lc_l (y := lN j) hb9 ?_
    refine lv_lstore (lv' := [(6, .long (lN j)), (4, .long (lN i)), (0, .long a), (2, .long b)]) hx hb dM_common_15 hl (by decide) rfl (fun ls hl => ?_)
    exact LP17 _ i j ls (Nat.lt_succ_self _) hi hj rfl (lv_sub hl [2, 3, 1, 0] rfl)
  · have c3 := mt (lg_cmp_ge a 0).mpr c3
    refine lv_lload_n hx hb dM_common_6 rfl (lv_at hl 0 rfl) ?_
    refine lv_lneg hx hb dM_common_7 ?_
    refine lv_goto (tgt := 12) hx hb dM_common_8 (by decide) ?_
    refine lc_l (y := lN i) (by rw [← ha, if_pos (Int64.not_le.mp c3)]) ?_
    refine lv_lstore (lv' := [(4, .long (lN i)), (0, .long a), (2, .long b)]) hx hb dM_common_12 hl (by decide) rfl (fun ls hl => ?_)
    refine W.eq (g2 := F0 m 14 ls []) rfl ?_
    refine lv_lload_n hx hb dM_common_14 rfl (lv_at hl 2 rfl) ?_
    refine lc_l (y := lN j) hb9 ?_
    refine lv_lstore (lv' := [(6, .long (lN j)), (4, .long (lN i)), (0, .long a), (2, .long b)]) hx hb dM_common_15 hl (by decide) rfl (fun ls hl => ?_)
    exact LP17 _ i j ls (Nat.lt_succ_self _) hi hj rfl (lv_sub hl [2, 3, 1, 0] rfl)

set_option maxHeartbeats 4000000 in
set_option maxRecDepth 100000 in
theorem cM_all (l : Launch) (D : va_G) (kI kJ kZ kG kH : ClassId) (h0 : Nat) (z_kilograms : Nat) (z_seconds : Nat) (z_waySeconds : Nat) (z_wayCosts : Nat) (z_pairs : Nat) (z_foundKilograms : Nat) (z_rows : Nat) (z_rounds : Nat) (z_costs : Nat) (z_lists : Nat) (z_barred : Nat) (z_row : Nat) (z_newRows : Nat) (z_newRounds : Nat) (z_newCosts : Nat) (z_newLists : Nat) (z_over : Nat) (z_under : Nat) (z_based : Nat) (z_open : Nat) (m_bins : Nat) (m_kilograms : Nat → Int32) (m_seconds : Nat → Int32) (m_waySeconds : Nat → Int32) (m_wayCosts : Nat → Int32) (m_load : Int32) (m_time : Int32) (m_vehicles : Int32) (m_pairs : Nat → Int32) (m_isFound : Int32) (m_foundBins : Int32) (m_foundLoad : Int32) (m_foundVehicles : Int32) (m_foundKilograms : Nat → Int32) (m_rows : Nat → Int32) (m_rounds : Nat → Int32) (m_costs : Nat → Int32) (m_lists : Nat → Int32) (m_barred : Nat → Int32) (m_fault : Int32) (m_row : Nat → Int32) (m_length : Int32) (m_newRows : Nat → Int32) (m_newRounds : Nat → Int32) (m_newCosts : Nat → Int32) (m_newLists : Nat → Int32) (m_over : Nat → Int64) (m_under : Nat → Int64) (m_based : Nat → Int32) (m_open : Nat → Int32) (fb : Nat) (hfb : fb ≤ 6) : Met l yM_all wM_all (rmL 0 0 0) (va_Pc [.ref h0] (fun U => wd D kI kJ kZ kG kH [(h0, .inr (8, [.int (nI m_bins), .ref z_kilograms, .ref z_seconds, .ref z_waySeconds, .ref z_wayCosts, .int m_load, .int m_time, .int m_vehicles, .ref z_pairs, .int m_isFound, .int (nI fb), .int m_foundLoad, .int m_foundVehicles, .ref z_foundKilograms, .ref z_rows, .ref z_rounds, .ref z_costs, .ref z_lists, .ref z_barred, .int m_fault, .ref z_row, .int m_length, .ref z_newRows, .ref z_newRounds, .ref z_newCosts, .ref z_newLists, .ref z_over, .ref z_under, .ref z_based, .ref z_open])), (z_kilograms, .inl (kI, 6, .inl m_kilograms)), (z_seconds, .inl (kI, 6, .inl m_seconds)), (z_waySeconds, .inl (kI, 49, .inl m_waySeconds)), (z_wayCosts, .inl (kI, 49, .inl m_wayCosts)), (z_pairs, .inl (kI, 36, .inl m_pairs)), (z_foundKilograms, .inl (kI, 6, .inl m_foundKilograms)), (z_rows, .inl (kZ, 384, .inl m_rows)), (z_rounds, .inl (kZ, 384, .inl m_rounds)), (z_costs, .inl (kI, 64, .inl m_costs)), (z_lists, .inl (kI, 384, .inl m_lists)), (z_barred, .inl (kZ, 64, .inl m_barred)), (z_row, .inl (kI, 6, .inl m_row)), (z_newRows, .inl (kZ, 384, .inl m_newRows)), (z_newRounds, .inl (kZ, 384, .inl m_newRounds)), (z_newCosts, .inl (kI, 64, .inl m_newCosts)), (z_newLists, .inl (kI, 384, .inl m_newLists)), (z_over, .inl (kJ, 576, .inr (.inl m_over))), (z_under, .inl (kJ, 576, .inr (.inl m_under))), (z_based, .inl (kI, 7, .inl m_based)), (z_open, .inl (kZ, 64, .inl m_open))] U)) (vp_Si (fun r : Int32 => r = nI (2 ^ fb - 1))) 0 0 (fun _ => False) := by
  refine Met.ofW (cc := bM_all) (maxL := 1) (ret := (some .int)) (by decide) rfl ?_
  intro p e s m args below meth c s₁ B hml hv
  obtain ⟨rfl, hP, hK, hN⟩ := hv
  have hx := B.exec
  have hb := B.bytes
  have hr := B.returns
  have hts := atoms_spec (ws := wM_all) B.pre
  have hown : s.vm.findClass NM = some m.cls := findClass_of_methodNamed B.named
  have hlocks := B.notSynchronized
  have hl := lv_entry ([.ref h0]) (n := 1) (Nat.le_of_ble_eq_true rfl)
  rw [lg_entry_eq]
  generalize (lg_sl ([.ref h0]) ++ List.replicate (1 - (lg_sl ([.ref h0])).length) Slot.unset).toArray = ls at hl ⊢
  have hl : lv_has ls 1 [(0, .ref h0)] := hl
  refine lv_iconst (v := 1) hx hb dM_all_0 (by decide) ?_
  refine lv_aload_n hx hb dM_all_1 rfl (lv_at hl 0 rfl) ?_
  refine va_get (D := D) (cl := rcl) (ci := 8) (v := .int (nI fb)) (C := NM) (T := TM) (N := 30) hx hb hts (fun w h => gw_t w (uwM w h)) hown hK hP 0 rfl rfl 10 (by decide) (hts _ (gw_t _ hw640)) (fun _ h9 => h9) rfl dM_all_2 ?_
  refine lv_ishl hx hb dM_all_5 ?_
  refine lc_i (y := nI (2 ^ fb)) (nn_sh1 (by omega)) ?_
  refine lv_iconst (v := 1) hx hb dM_all_6 (by decide) ?_
  refine lv_isub hx hb dM_all_7 ?_
  refine lc_i (y := nI (2 ^ fb - 1)) (pk_sub Nat.one_le_two_pow) ?_
  exact W.iret (v := nI (2 ^ fb - 1)) hx hb hr (fun t ht9 hW9 => ⟨_, rfl, rfl, ht9⟩) t_nil dM_all_8

set_option maxHeartbeats 4000000 in
set_option maxRecDepth 100000 in
theorem cM_goal (l : Launch) (D : va_G) (kI kJ kZ kG kH : ClassId) (h0 : Nat) (z_kilograms : Nat) (z_seconds : Nat) (z_waySeconds : Nat) (z_wayCosts : Nat) (z_pairs : Nat) (z_foundKilograms : Nat) (z_rows : Nat) (z_rounds : Nat) (z_costs : Nat) (z_lists : Nat) (z_barred : Nat) (z_row : Nat) (z_newRows : Nat) (z_newRounds : Nat) (z_newCosts : Nat) (z_newLists : Nat) (z_over : Nat) (z_under : Nat) (z_based : Nat) (z_open : Nat) (m_bins : Nat) (m_kilograms : Nat → Int32) (m_seconds : Nat → Int32) (m_waySeconds : Nat → Int32) (m_wayCosts : Nat → Int32) (m_load : Int32) (m_time : Int32) (m_vehicles : Int32) (m_pairs : Nat → Int32) (m_isFound : Int32) (m_foundBins : Int32) (m_foundLoad : Int32) (m_foundVehicles : Int32) (m_foundKilograms : Nat → Int32) (m_rows : Nat → Int32) (m_rounds : Nat → Int32) (m_costs : Nat → Int32) (m_lists : Nat → Int32) (m_barred : Nat → Int32) (m_fault : Int32) (m_row : Nat → Int32) (m_length : Int32) (m_newRows : Nat → Int32) (m_newRounds : Nat → Int32) (m_newCosts : Nat → Int32) (m_newLists : Nat → Int32) (m_over : Nat → Int64) (m_under : Nat → Int64) (m_based : Nat → Int32) (m_open : Nat → Int32) (pt : Int32) : Met l yM_goal wM_goal (rmL 0 0 0) (va_Pc [.ref h0, .int pt] (fun U => wd D kI kJ kZ kG kH [(h0, .inr (8, [.int (nI m_bins), .ref z_kilograms, .ref z_seconds, .ref z_waySeconds, .ref z_wayCosts, .int m_load, .int m_time, .int m_vehicles, .ref z_pairs, .int m_isFound, .int m_foundBins, .int m_foundLoad, .int m_foundVehicles, .ref z_foundKilograms, .ref z_rows, .ref z_rounds, .ref z_costs, .ref z_lists, .ref z_barred, .int m_fault, .ref z_row, .int m_length, .ref z_newRows, .ref z_newRounds, .ref z_newCosts, .ref z_newLists, .ref z_over, .ref z_under, .ref z_based, .ref z_open])), (z_kilograms, .inl (kI, 6, .inl m_kilograms)), (z_seconds, .inl (kI, 6, .inl m_seconds)), (z_waySeconds, .inl (kI, 49, .inl m_waySeconds)), (z_wayCosts, .inl (kI, 49, .inl m_wayCosts)), (z_pairs, .inl (kI, 36, .inl m_pairs)), (z_foundKilograms, .inl (kI, 6, .inl m_foundKilograms)), (z_rows, .inl (kZ, 384, .inl m_rows)), (z_rounds, .inl (kZ, 384, .inl m_rounds)), (z_costs, .inl (kI, 64, .inl m_costs)), (z_lists, .inl (kI, 384, .inl m_lists)), (z_barred, .inl (kZ, 64, .inl m_barred)), (z_row, .inl (kI, 6, .inl m_row)), (z_newRows, .inl (kZ, 384, .inl m_newRows)), (z_newRounds, .inl (kZ, 384, .inl m_newRounds)), (z_newCosts, .inl (kI, 64, .inl m_newCosts)), (z_newLists, .inl (kI, 384, .inl m_newLists)), (z_over, .inl (kJ, 576, .inr (.inl m_over))), (z_under, .inl (kJ, 576, .inr (.inl m_under))), (z_based, .inl (kI, 7, .inl m_based)), (z_open, .inl (kZ, 64, .inl m_open))] U)) (vp_Sl (fun r : Int64 => r = if pt = 0 then - m_over 575 else if pt = 1 then m_under 575 else 0)) 0 0 (fun _ => False) := by
  refine Met.ofW (cc := bM_goal) (maxL := 2) (ret := (some .long)) (by decide) rfl ?_
  intro p e s m args below meth c s₁ B hml hv
  obtain ⟨rfl, hP, hK, hN⟩ := hv
  have hx := B.exec
  have hb := B.bytes
  have hr := B.returns
  have hts := atoms_spec (ws := wM_goal) B.pre
  have hown : s.vm.findClass NM = some m.cls := findClass_of_methodNamed B.named
  have hlocks := B.notSynchronized
  have hl := lv_entry ([.ref h0, .int pt]) (n := 2) (Nat.le_of_ble_eq_true rfl)
  rw [lg_entry_eq]
  generalize (lg_sl ([.ref h0, .int pt]) ++ List.replicate (2 - (lg_sl ([.ref h0, .int pt])).length) Slot.unset).toArray = ls at hl ⊢
  have hl : lv_has ls 2 [(0, .ref h0), (1, .int pt)] := hl
  refine lv_iload_n hx hb dM_goal_0 rfl (lv_at hl 1 rfl) ?_
  refine lv_if_ne (tgt := 16) hx hb dM_goal_1 (by decide) (fun c1 => ?_) (fun c1 => ?_)
  · refine lv_iload_n hx hb dM_goal_16 rfl (lv_at hl 1 rfl) ?_
    refine lv_iconst (v := 1) hx hb dM_goal_17 (by decide) ?_
    refine lv_icmp_ne (tgt := 32) hx hb dM_goal_18 (by decide) (fun c18 => ?_) (fun c18 => ?_)
    · refine lv_lconst (v := 0) hx hb dM_goal_32 (by decide) ?_
      exact W.lret (v := 0) hx hb hr (fun t ht9 hW9 => ⟨_, rfl, by rw [if_neg c1, if_neg c18], ht9⟩) t_nil dM_goal_33
    · refine lv_aload_n hx hb dM_goal_21 rfl (lv_at hl 0 rfl) ?_
      refine va_get (D := D) (cl := rcl) (ci := 8) (v := .ref z_under) (C := NM) (T := TM) (N := 30) hx hb hts (fun w h => gw_t w (uwM w h)) hown hK hP 0 rfl rfl 27 (by decide) (hts _ (gw_t _ hw657)) (fun _ h9 => h9) rfl dM_goal_22 ?_
      refine lv_sipush (v := 575) hx hb dM_goal_25 (by decide) ?_
      refine ra_l (k := 575) hx hb hK hP 18 1 rfl rfl (by omega) (by omega) dM_goal_28 ?_
      refine lv_goto (tgt := 33) hx hb dM_goal_29 (by decide) ?_
      exact W.lret (v := m_under 575) hx hb hr (fun t ht9 hW9 => ⟨_, rfl, by rw [if_neg c1, if_pos c18], ht9⟩) t_nil dM_goal_33
  · refine lv_aload_n hx hb dM_goal_4 rfl (lv_at hl 0 rfl) ?_
    refine va_get (D := D) (cl := rcl) (ci := 8) (v := .ref z_over) (C := NM) (T := TM) (N := 30) hx hb hts (fun w h => gw_t w (uwM w h)) hown hK hP 0 rfl rfl 26 (by decide) (hts _ (gw_t _ hw656)) (fun _ h9 => h9) rfl dM_goal_5 ?_
    refine lv_sipush (v := 575) hx hb dM_goal_8 (by decide) ?_
    refine ra_l (k := 575) hx hb hK hP 17 1 rfl rfl (by omega) (by omega) dM_goal_11 ?_
    refine lv_lneg hx hb dM_goal_12 ?_
    refine lv_goto (tgt := 33) hx hb dM_goal_13 (by decide) ?_
    exact W.lret (v := -(m_over 575)) hx hb hr (fun t ht9 hW9 => ⟨_, rfl, by rw [if_pos c1], ht9⟩) t_nil dM_goal_33
