/-! bitCount; Rounds: setCount -/
def pcn (k : Nat) : Nat := (List.range 6).foldl (fun a b => if k.testBit b then a + 1 else a) 0
/-- how many of the places from b on, f of them, are such -/
def cntF (p : Nat → Bool) : Nat → Nat → Nat
  | 0, _ => 0
  | f + 1, b => (if p b then 1 else 0) + cntF p f (b + 1)
/-- the n-th of them -/
def nthP (p : Nat → Bool) (n : Int32) : Nat → Nat → Nat → Option Nat
  | 0, _, _ => none
  | f + 1, b, q => if p b then (if nI q = n then some b else nthP p n f (b + 1) (q + 1)) else nthP p n f (b + 1) q
def cutP (ld : Int64) (kg : Nat → Int64) (st : Nat) : Bool := decide (0 < ld) && decide (ld < kg st)
theorem cut_t {ld : Int64} {kg : Nat → Int64} {st : Nat} (h1 : 0 < ld) (h2 : ld < kg st) : cutP ld kg st = true := by simp [cutP, h1, h2]
theorem cut_f {ld : Int64} {kg : Nat → Int64} {st : Nat} (h : ld ≤ 0 ∨ kg st ≤ ld) : ¬ cutP ld kg st = true := by
  rcases h with h | h
  · simp [cutP, Int64.not_lt.mpr h]
  · simp [cutP, Int64.not_lt.mpr h]
theorem bitc_key : ∀ kk, kk < 64 → (((((((((nI kk) - ((((nI kk).toUInt32 >>> ((1 : Int32).toUInt32 &&& Int32.toUInt32 31)).toInt32) &&& 1431655765)) &&& 858993459) + (((((nI kk) - ((((nI kk).toUInt32 >>> ((1 : Int32).toUInt32 &&& Int32.toUInt32 31)).toInt32) &&& 1431655765)).toUInt32 >>> ((2 : Int32).toUInt32 &&& Int32.toUInt32 31)).toInt32) &&& 858993459)) + ((((((nI kk) - ((((nI kk).toUInt32 >>> ((1 : Int32).toUInt32 &&& Int32.toUInt32 31)).toInt32) &&& 1431655765)) &&& 858993459) + (((((nI kk) - ((((nI kk).toUInt32 >>> ((1 : Int32).toUInt32 &&& Int32.toUInt32 31)).toInt32) &&& 1431655765)).toUInt32 >>> ((2 : Int32).toUInt32 &&& Int32.toUInt32 31)).toInt32) &&& 858993459)).toUInt32 >>> ((4 : Int32).toUInt32 &&& Int32.toUInt32 31)).toInt32)) &&& 252645135) + ((((((((nI kk) - ((((nI kk).toUInt32 >>> ((1 : Int32).toUInt32 &&& Int32.toUInt32 31)).toInt32) &&& 1431655765)) &&& 858993459) + (((((nI kk) - ((((nI kk).toUInt32 >>> ((1 : Int32).toUInt32 &&& Int32.toUInt32 31)).toInt32) &&& 1431655765)).toUInt32 >>> ((2 : Int32).toUInt32 &&& Int32.toUInt32 31)).toInt32) &&& 858993459)) + ((((((nI kk) - ((((nI kk).toUInt32 >>> ((1 : Int32).toUInt32 &&& Int32.toUInt32 31)).toInt32) &&& 1431655765)) &&& 858993459) + (((((nI kk) - ((((nI kk).toUInt32 >>> ((1 : Int32).toUInt32 &&& Int32.toUInt32 31)).toInt32) &&& 1431655765)).toUInt32 >>> ((2 : Int32).toUInt32 &&& Int32.toUInt32 31)).toInt32) &&& 858993459)).toUInt32 >>> ((4 : Int32).toUInt32 &&& Int32.toUInt32 31)).toInt32)) &&& 252645135).toUInt32 >>> ((8 : Int32).toUInt32 &&& Int32.toUInt32 31)).toInt32)) + (((((((((nI kk) - ((((nI kk).toUInt32 >>> ((1 : Int32).toUInt32 &&& Int32.toUInt32 31)).toInt32) &&& 1431655765)) &&& 858993459) + (((((nI kk) - ((((nI kk).toUInt32 >>> ((1 : Int32).toUInt32 &&& Int32.toUInt32 31)).toInt32) &&& 1431655765)).toUInt32 >>> ((2 : Int32).toUInt32 &&& Int32.toUInt32 31)).toInt32) &&& 858993459)) + ((((((nI kk) - ((((nI kk).toUInt32 >>> ((1 : Int32).toUInt32 &&& Int32.toUInt32 31)).toInt32) &&& 1431655765)) &&& 858993459) + (((((nI kk) - ((((nI kk).toUInt32 >>> ((1 : Int32).toUInt32 &&& Int32.toUInt32 31)).toInt32) &&& 1431655765)).toUInt32 >>> ((2 : Int32).toUInt32 &&& Int32.toUInt32 31)).toInt32) &&& 858993459)).toUInt32 >>> ((4 : Int32).toUInt32 &&& Int32.toUInt32 31)).toInt32)) &&& 252645135) + ((((((((nI kk) - ((((nI kk).toUInt32 >>> ((1 : Int32).toUInt32 &&& Int32.toUInt32 31)).toInt32) &&& 1431655765)) &&& 858993459) + (((((nI kk) - ((((nI kk).toUInt32 >>> ((1 : Int32).toUInt32 &&& Int32.toUInt32 31)).toInt32) &&& 1431655765)).toUInt32 >>> ((2 : Int32).toUInt32 &&& Int32.toUInt32 31)).toInt32) &&& 858993459)) + ((((((nI kk) - ((((nI kk).toUInt32 >>> ((1 : Int32).toUInt32 &&& Int32.toUInt32 31)).toInt32) &&& 1431655765)) &&& 858993459) + (((((nI kk) - ((((nI kk).toUInt32 >>> ((1 : Int32).toUInt32 &&& Int32.toUInt32 31)).toInt32) &&& 1431655765)).toUInt32 >>> ((2 : Int32).toUInt32 &&& Int32.toUInt32 31)).toInt32) &&& 858993459)).toUInt32 >>> ((4 : Int32).toUInt32 &&& Int32.toUInt32 31)).toInt32)) &&& 252645135).toUInt32 >>> ((8 : Int32).toUInt32 &&& Int32.toUInt32 31)).toInt32)).toUInt32 >>> ((16 : Int32).toUInt32 &&& Int32.toUInt32 31)).toInt32)) &&& 63) = nI (pcn kk) := by decide +kernel
set_option maxHeartbeats 4000000 in
set_option maxRecDepth 100000 in
theorem cJI_bitCount (l : Launch) (kk : Nat) (hk : kk < 64) : Met l yJI_bitCount wJI_bitCount (rmL 0 0 0) (va_Pc [.int (nI kk)] (fun U => True)) (vp_Si (fun r : Int32 => r = nI (pcn kk))) 0 0 (fun _ => False) := by
  refine va_MetF (cc := bJI_bitCount) (maxL := 1) (ret := (some .int)) (by decide +kernel) rfl ?_
  intro p e s m args below meth c s₁ B hml hv
  obtain ⟨rfl, hv⟩ := hv
  have hx := B.exec
  have hb := B.bytes
  have hr := B.returns
  have hts := atoms_spec (ws := wJI_bitCount) B.pre
  have hown : s.vm.findClass NJI = some m.cls := findClass_of_methodNamed B.named
  have hlocks := B.notSynchronized
  have hl := lv_entry ([.int (nI kk)]) (n := 1) (Nat.le_of_ble_eq_true rfl)
  rw [lg_entry_eq]
  generalize (lg_sl ([.int (nI kk)]) ++ List.replicate (1 - (lg_sl ([.int (nI kk)])).length) Slot.unset).toArray = ls at hl ⊢
  have hl : lv_has ls 1 [(0, .int (nI kk))] := hl
  refine lv_iload_n hx hb dJI_bitCount_0 rfl (lv_at hl 0 rfl) ?_
  refine lv_iload_n hx hb dJI_bitCount_1 rfl (lv_at hl 0 rfl) ?_
  refine lv_iconst (v := 1) hx hb dJI_bitCount_2 (by decide) ?_
  refine lv_iushr (v := ((nI kk).toUInt32 >>> ((1 : Int32).toUInt32 &&& Int32.toUInt32 31)).toInt32) hx hb dJI_bitCount_3 rfl ?_
  refine lv_topi (fun v1 ev1 => ?_)
  refine lv_ldcw (v := 1431655765) (own := NJI) hx hb hown (hts _ (gw_t _ hw301)) dJI_bitCount_4 ?_
  refine lv_iand hx hb dJI_bitCount_7 ?_
  refine lv_topi (fun v2 ev2 => ?_)
  refine lv_isub hx hb dJI_bitCount_8 ?_
  refine lv_topi (fun v3 ev3 => ?_)
  refine lv_istore_n (lv' := [(0, .int v3)]) hx hb dJI_bitCount_9 rfl hl (by decide) rfl (fun ls hl => ?_)
  refine lv_iload_n hx hb dJI_bitCount_10 rfl (lv_at hl 0 rfl) ?_
  refine lv_ldcw (v := 858993459) (own := NJI) hx hb hown (hts _ (gw_t _ hw302)) dJI_bitCount_11 ?_
  refine lv_iand hx hb dJI_bitCount_14 ?_
  refine lv_topi (fun v4 ev4 => ?_)
  refine lv_iload_n hx hb dJI_bitCount_15 rfl (lv_at hl 0 rfl) ?_
  refine lv_iconst (v := 2) hx hb dJI_bitCount_16 (by decide) ?_
  refine lv_iushr (v := (v3.toUInt32 >>> ((2 : Int32).toUInt32 &&& Int32.toUInt32 31)).toInt32) hx hb dJI_bitCount_17 rfl ?_
  refine lv_topi (fun v5 ev5 => ?_)
  refine lv_ldcw (v := 858993459) (own := NJI) hx hb hown (hts _ (gw_t _ hw302)) dJI_bitCount_18 ?_
  refine lv_iand hx hb dJI_bitCount_21 ?_
  refine lv_topi (fun v6 ev6 => ?_)
  refine lv_iadd hx hb dJI_bitCount_22 ?_
  refine lv_topi (fun v7 ev7 => ?_)
  refine lv_istore_n (lv' := [(0, .int v7)]) hx hb dJI_bitCount_23 rfl hl (by decide) rfl (fun ls hl => ?_)
  refine lv_iload_n hx hb dJI_bitCount_24 rfl (lv_at hl 0 rfl) ?_
  refine lv_iload_n hx hb dJI_bitCount_25 rfl (lv_at hl 0 rfl) ?_
  refine lv_iconst (v := 4) hx hb dJI_bitCount_26 (by decide) ?_
  refine lv_iushr (v := (v7.toUInt32 >>> ((4 : Int32).toUInt32 &&& Int32.toUInt32 31)).toInt32) hx hb dJI_bitCount_27 rfl ?_
  refine lv_topi (fun v8 ev8 => ?_)
  refine lv_iadd hx hb dJI_bitCount_28 ?_
  refine lv_topi (fun v9 ev9 => ?_)
  refine lv_ldcw (v := 252645135) (own := NJI) hx hb hown (hts _ (gw_t _ hw303)) dJI_bitCount_29 ?_
  refine lv_iand hx hb dJI_bitCount_32 ?_
  refine lv_topi (fun v10 ev10 => ?_)
  refine lv_istore_n (lv' := [(0, .int v10)]) hx hb dJI_bitCount_33 rfl hl (by decide) rfl (fun ls hl => ?_)
  refine lv_iload_n hx hb dJI_bitCount_34 rfl (lv_at hl 0 rfl) ?_
  refine lv_iload_n hx hb dJI_bitCount_35 rfl (lv_at hl 0 rfl) ?_
  refine lv_bipush (v := 8) hx hb dJI_bitCount_36 (by decide) ?_
  refine lv_iushr (v := (v10.toUInt32 >>> ((8 : Int32).toUInt32 &&& Int32.toUInt32 31)).toInt32) hx hb dJI_bitCount_38 rfl ?_
  refine lv_topi (fun v11 ev11 => ?_)
  refine lv_iadd hx hb dJI_bitCount_39 ?_
  refine lv_topi (fun v12 ev12 => ?_)
  refine lv_istore_n (lv' := [(0, .int v12)]) hx hb dJI_bitCount_40 rfl hl (by decide) rfl (fun ls hl => ?_)
  refine lv_iload_n hx hb dJI_bitCount_41 rfl (lv_at hl 0 rfl) ?_
  refine lv_iload_n hx hb dJI_bitCount_42 rfl (lv_at hl 0 rfl) ?_
  refine lv_bipush (v := 16) hx hb dJI_bitCount_43 (by decide) ?_
  refine lv_iushr (v := (v12.toUInt32 >>> ((16 : Int32).toUInt32 &&& Int32.toUInt32 31)).toInt32) hx hb dJI_bitCount_45 rfl ?_
  refine lv_topi (fun v13 ev13 => ?_)
  refine lv_iadd hx hb dJI_bitCount_46 ?_
  refine lv_topi (fun v14 ev14 => ?_)
  refine lv_istore_n (lv' := [(0, .int v14)]) hx hb dJI_bitCount_47 rfl hl (by decide) rfl (fun ls hl => ?_)
  refine lv_iload_n hx hb dJI_bitCount_48 rfl (lv_at hl 0 rfl) ?_
  refine lv_bipush (v := 63) hx hb dJI_bitCount_49 (by decide) ?_
  refine lv_iand hx hb dJI_bitCount_51 ?_
  refine lv_topi (fun v15 ev15 => ?_)
  exact W.iret (v := v15) hx hb hr (fun t ht9 hW9 => ⟨_, rfl, by subst_vars; exact bitc_key kk hk, ht9⟩) t_nil dJI_bitCount_52

set_option maxHeartbeats 4000000 in
set_option maxRecDepth 100000 in
theorem cR_setCount (l : Launch) (D : va_G) (kI kJ kZ kG kH : ClassId) (h0 : Nat) (tw : Nat) (q0 : Nat) (q1 : Nat) (q2 : Nat) (q3 : Nat) (q4 : Nat) (q5 : Nat) (q6 : Nat) (q7 : Nat) (bn : Nat) (ld : Int64) (vh : Int32) (lc : Nat) (cc : Nat) (cs : Nat → Int32) (kg : Nat → Int64) (re : Nat → Int32) (ro : Nat → Int32) (ba : Nat → Int32) (co : Nat → Int64) (od : Nat → Int32) (rw : Nat → Int32) (hbn : bn ≤ 6) : Met l yR_setCount wR_setCount (rmL 0 0 0) (va_Pc [.ref h0] (fun U => wd D kI kJ kZ kG kH [(h0, .inr (4, [.ref tw, .int (nI bn), .long ld, .int vh, .int (nI lc), .int (nI cc), .ref q0, .ref q1, .ref q2, .ref q3, .ref q4, .ref q5, .ref q6, .ref q7])), (q0, .inl (kI, 63, .inl cs)), (q1, .inl (kJ, 64, .inr (.inl kg))), (q2, .inl (kI, 64, .inl re)), (q3, .inl (kI, 64, .inl ro)), (q4, .inl (kZ, 64, .inl ba)), (q5, .inl (kJ, 64, .inr (.inl co))), (q6, .inl (kI, 384, .inl od)), (q7, .inl (kI, 6, .inl rw))] U)) (vp_Si (fun r : Int32 => r = nI (2 ^ bn))) 0 0 (fun _ => False) := by
  refine Met.ofW (cc := bR_setCount) (maxL := 1) (ret := (some .int)) (by decide) rfl ?_
  intro p e s m args below meth c s₁ B hml hv
  obtain ⟨rfl, hP, hK, hN⟩ := hv
  have hx := B.exec
  have hb := B.bytes
  have hr := B.returns
  have hts := atoms_spec (ws := wR_setCount) B.pre
  have hown : s.vm.findClass NR = some m.cls := findClass_of_methodNamed B.named
  have hlocks := B.notSynchronized
  have hl := lv_entry ([.ref h0]) (n := 1) (Nat.le_of_ble_eq_true rfl)
  rw [lg_entry_eq]
  generalize (lg_sl ([.ref h0]) ++ List.replicate (1 - (lg_sl ([.ref h0])).length) Slot.unset).toArray = ls at hl ⊢
  have hl : lv_has ls 1 [(0, .ref h0)] := hl
  refine lv_iconst (v := 1) hx hb dR_setCount_0 (by decide) ?_
  refine lv_aload_n hx hb dR_setCount_1 rfl (lv_at hl 0 rfl) ?_
  refine va_get (D := D) (cl := rcl) (ci := 4) (v := .int (nI bn)) (C := NR) (T := TR) (N := 14) hx hb hts (fun w h => gw_t w (uwR w h)) hown hK hP 0 rfl rfl 1 (by decide) (hts _ (gw_t _ hw164)) (fun _ h9 => h9) rfl dR_setCount_2 ?_
  refine lv_ishl hx hb dR_setCount_5 ?_
  refine lc_i (y := nI (2 ^ bn)) (nn_sh1 (by omega)) ?_
  exact W.iret (v := nI (2 ^ bn)) hx hb hr (fun t ht9 hW9 => ⟨_, rfl, rfl, ht9⟩) t_nil dR_setCount_6

set_option maxHeartbeats 4000000 in
set_option maxRecDepth 100000 in
theorem cR_isCut (l : Launch) (D : va_G) (kI kJ kZ kG kH : ClassId) (h0 : Nat) (tw : Nat) (q0 : Nat) (q1 : Nat) (q2 : Nat) (q3 : Nat) (q4 : Nat) (q5 : Nat) (q6 : Nat) (q7 : Nat) (bn : Nat) (ld : Int64) (vh : Int32) (lc : Nat) (cc : Nat) (cs : Nat → Int32) (kg : Nat → Int64) (re : Nat → Int32) (ro : Nat → Int32) (ba : Nat → Int32) (co : Nat → Int64) (od : Nat → Int32) (rw : Nat → Int32) (st : Nat) (hs : st < 64) : Met l yR_isCut wR_isCut (rmL 0 0 0) (va_Pc [.ref h0, .int (nI st)] (fun U => wd D kI kJ kZ kG kH [(h0, .inr (4, [.ref tw, .int (nI bn), .long ld, .int vh, .int (nI lc), .int (nI cc), .ref q0, .ref q1, .ref q2, .ref q3, .ref q4, .ref q5, .ref q6, .ref q7])), (q0, .inl (kI, 63, .inl cs)), (q1, .inl (kJ, 64, .inr (.inl kg))), (q2, .inl (kI, 64, .inl re)), (q3, .inl (kI, 64, .inl ro)), (q4, .inl (kZ, 64, .inl ba)), (q5, .inl (kJ, 64, .inr (.inl co))), (q6, .inl (kI, 384, .inl od)), (q7, .inl (kI, 6, .inl rw))] U)) (vp_Si (fun r : Int32 => r = if cutP ld kg st then 1 else 0)) 0 0 (fun _ => False) := by
  refine Met.ofW (cc := bR_isCut) (maxL := 2) (ret := (some .boolean)) (by decide) rfl ?_
  intro p e s m args below meth c s₁ B hml hv
  obtain ⟨rfl, hP, hK, hN⟩ := hv
  have hx := B.exec
  have hb := B.bytes
  have hr := B.returns
  have hts := atoms_spec (ws := wR_isCut) B.pre
  have hown : s.vm.findClass NR = some m.cls := findClass_of_methodNamed B.named
  have hlocks := B.notSynchronized
  have hl := lv_entry ([.ref h0, .int (nI st)]) (n := 2) (Nat.le_of_ble_eq_true rfl)
  rw [lg_entry_eq]
  generalize (lg_sl ([.ref h0, .int (nI st)]) ++ List.replicate (2 - (lg_sl ([.ref h0, .int (nI st)])).length) Slot.unset).toArray = ls at hl ⊢
  have hl : lv_has ls 2 [(0, .ref h0), (1, .int (nI st))] := hl
  refine lv_aload_n hx hb dR_isCut_0 rfl (lv_at hl 0 rfl) ?_
  refine va_get (D := D) (cl := rcl) (ci := 4) (v := .long ld) (C := NR) (T := TR) (N := 14) hx hb hts (fun w h => gw_t w (uwR w h)) hown hK hP 0 rfl rfl 2 (by decide) (hts _ (gw_t _ hw167)) (fun _ h9 => h9) rfl dR_isCut_1 ?_
  refine lv_lconst (v := 0) hx hb dR_isCut_4 (by decide) ?_
  refine W.lcmp hx hb dR_isCut_5 ?_
  refine lv_if_le (tgt := 27) hx hb dR_isCut_6 (by decide) (fun c6 => ?_) (fun c6 => ?_)
  · have c6 := (lg_cmp_le ld 0).mp c6
    refine lv_iconst (v := 0) hx hb dR_isCut_27 (by decide) ?_
    exact W.zret (v := 0) (ty := .boolean) hx hb hr (by decide) (fun t ht9 hW9 => ⟨_, rfl, by rw [if_neg (cut_f (Or.inl c6))], ht9⟩) t_nil dR_isCut_28
  · have c6 := mt (lg_cmp_le ld 0).mpr c6
    refine lv_aload_n hx hb dR_isCut_9 rfl (lv_at hl 0 rfl) ?_
    refine va_get (D := D) (cl := rcl) (ci := 4) (v := .ref q1) (C := NR) (T := TR) (N := 14) hx hb hts (fun w h => gw_t w (uwR w h)) hown hK hP 0 rfl rfl 7 (by decide) (hts _ (gw_t _ hw179)) (fun _ h9 => h9) rfl dR_isCut_10 ?_
    refine lv_iload_n hx hb dR_isCut_13 rfl (lv_at hl 1 rfl) ?_
    refine ra_l (k := st) hx hb hK hP 2 1 rfl rfl (by omega) (by omega) dR_isCut_14 ?_
    refine lv_aload_n hx hb dR_isCut_15 rfl (lv_at hl 0 rfl) ?_
    refine va_get (D := D) (cl := rcl) (ci := 4) (v := .long ld) (C := NR) (T := TR) (N := 14) hx hb hts (fun w h => gw_t w (uwR w h)) hown hK hP 0 rfl rfl 2 (by decide) (hts _ (gw_t _ hw167)) (fun _ h9 => h9) rfl dR_isCut_16 ?_
    refine W.lcmp hx hb dR_isCut_19 ?_
    refine lv_if_le (tgt := 27) hx hb dR_isCut_20 (by decide) (fun c20 => ?_) (fun c20 => ?_)
    · have c20 := (lg_cmp_le (kg st) ld).mp c20
      refine lv_iconst (v := 0) hx hb dR_isCut_27 (by decide) ?_
      exact W.zret (v := 0) (ty := .boolean) hx hb hr (by decide) (fun t ht9 hW9 => ⟨_, rfl, by rw [if_neg (cut_f (Or.inr c20))], ht9⟩) t_nil dR_isCut_28
    · have c20 := mt (lg_cmp_le (kg st) ld).mpr c20
      refine lv_iconst (v := 1) hx hb dR_isCut_23 (by decide) ?_
      refine lv_goto (tgt := 28) hx hb dR_isCut_24 (by decide) ?_
      exact W.zret (v := 1) (ty := .boolean) hx hb hr (by decide) (fun t ht9 hW9 => ⟨_, rfl, by rw [if_pos (cut_t (Int64.not_le.mp c6) (Int64.not_le.mp c20))], ht9⟩) t_nil dR_isCut_28

set_option maxHeartbeats 4000000 in
set_option maxRecDepth 100000 in
theorem cR_countCuts (l : Launch) (D : va_G) (kI kJ kZ kG kH : ClassId) (h0 : Nat) (tw : Nat) (q0 : Nat) (q1 : Nat) (q2 : Nat) (q3 : Nat) (q4 : Nat) (q5 : Nat) (q6 : Nat) (q7 : Nat) (bn : Nat) (ld : Int64) (vh : Int32) (lc : Nat) (cc : Nat) (cs : Nat → Int32) (kg : Nat → Int64) (re : Nat → Int32) (ro : Nat → Int32) (ba : Nat → Int32) (co : Nat → Int64) (od : Nat → Int32) (rw : Nat → Int32) (hbn : bn ≤ 6) : Met l yR_countCuts wR_countCuts (rmL 1 0 0) (va_Pc [.ref h0] (fun U => wd D kI kJ kZ kG kH [(h0, .inr (4, [.ref tw, .int (nI bn), .long ld, .int vh, .int (nI lc), .int (nI cc), .ref q0, .ref q1, .ref q2, .ref q3, .ref q4, .ref q5, .ref q6, .ref q7])), (q0, .inl (kI, 63, .inl cs)), (q1, .inl (kJ, 64, .inr (.inl kg))), (q2, .inl (kI, 64, .inl re)), (q3, .inl (kI, 64, .inl ro)), (q4, .inl (kZ, 64, .inl ba)), (q5, .inl (kJ, 64, .inr (.inl co))), (q6, .inl (kI, 384, .inl od)), (q7, .inl (kI, 6, .inl rw))] U)) (vp_Si (fun r : Int32 => r = nI (cntF (cutP ld kg) (2 ^ bn - 1) 1))) 0 0 (fun _ => False) := by
  refine Met.ofW (cc := bR_countCuts) (maxL := 3) (ret := (some .int)) (by decide) rfl ?_
  intro p e s m args below meth c s₁ B hml hv
  obtain ⟨rfl, hP, hK, hN⟩ := hv
  have hx := B.exec
  have hb := B.bytes
  have hr := B.returns
  have hts := atoms_spec (ws := wR_countCuts) B.pre
  have hown : s.vm.findClass NR = some m.cls := findClass_of_methodNamed B.named
  have hlocks := B.notSynchronized
  have hl := lv_entry ([.ref h0]) (n := 3) (Nat.le_of_ble_eq_true rfl)
  rw [lg_entry_eq]
  generalize (lg_sl ([.ref h0]) ++ List.replicate (3 - (lg_sl ([.ref h0])).length) Slot.unset).toArray = ls at hl ⊢
  have hl : lv_has ls 3 [(0, .ref h0)] := hl
  have hp : 2 ^ bn ≤ 64 := Nat.le_trans (Nat.pow_le_pow_right (by decide) hbn) (by decide)
  have hp1 : 1 ≤ 2 ^ bn := Nat.one_le_two_pow
  have LP4 : ∀ (dd : Nat) (kx : Nat) (qx : Nat) (ls : Array Slot), 2 ^ bn - kx < dd → (1 ≤ kx) → (kx ≤ 2 ^ bn) → (qx < kx) → (cntF (cutP ld kg) (2 ^ bn - 1) 1 = qx + cntF (cutP ld kg) (2 ^ bn - kx) kx) → lv_has ls 3 [(0, .ref h0), (1, .int (nI qx)), (2, .int (nI kx))] → W p l e (headSpec wR_countCuts (rmL 1 0 0)).room s m ([.ref h0] : List Value).toArray below meth c s.heap [] 0 0 (MQ below (vp_Si (fun r : Int32 => r = nI (cntF (cutP ld kg) (2 ^ bn - 1) 1))) ([.ref h0] : List Value).toArray s 0 0 (fun _ => False)) (F0 m 4 ls []) := by
    intro dd
    induction dd with
    | zero =>
      intro kx qx ls hm
      exact absurd hm (Nat.not_lt_zero _)
    | succ dd ih =>
      intro kx qx ls hm hk1 hk hq hf hl
      refine lv_iload_n hx hb dR_countCuts_4 rfl (lv_at hl 2 rfl) ?_
      refine lv_aload_n hx hb dR_countCuts_5 rfl (lv_at hl 0 rfl) ?_
      refine vp_callSi (W.runV (C := NR) (As := []) (rest := [.int (nI kx)]) ⟨hx, hb, hml, hown, hts⟩ (cR_setCount l D kI kJ kZ kG kH h0 tw q0 q1 q2 q3 q4 q5 q6 q7 bn ld vh lc cc cs kg re ro ba co od rw hbn) ⟨cB 0 hts hw453 hw7 hw450 (by decide +kernel) ⟨Nat.le_of_ble_eq_true rfl, Nat.le_of_ble_eq_true rfl⟩ rfl rfl, hts _ (gw_t _ hw452), hts _ (gw_t _ hs10)⟩ ⟨fun a U g mk q => ⟨q.1, q.2.calling g mk a⟩, va_recv hK hP (ci := 4) (q0 := 0) rfl rfl, fun U hU hW => ⟨rfl, wd.use hP hK hN hU hW⟩⟩ rfl rfl hl.1 rfl (lv_room (Nat.le_of_ble_eq_true rfl)) dR_countCuts_6 ⟨Nat.le_of_ble_eq_true rfl, Nat.le_of_ble_eq_true rfl⟩) (fun r6 hr6 => ?_)
      subst hr6
      refine lv_icmp_ge (tgt := 34) hx hb dR_countCuts_9 (by decide) (fun c9 => ?_) (fun c9 => ?_)
      · have c9 : 2 ^ bn ≤ kx := (nI_leI (a := 2 ^ bn) (b := kx) (by omega) (by omega)).mp c9
        refine lv_iload_n hx hb dR_countCuts_34 rfl (lv_at hl 1 rfl) ?_
        exact W.iret (v := nI qx) hx hb hr (fun t ht9 hW9 => ⟨_, rfl, by rw [hf, show 2 ^ bn - kx = 0 by omega]; rfl, ht9⟩) t_nil dR_countCuts_35
      · have c9 : ¬ 2 ^ bn ≤ kx := mt (nI_leI (a := 2 ^ bn) (b := kx) (by omega) (by omega)).mpr c9
        refine lv_iload_n hx hb dR_countCuts_12 rfl (lv_at hl 1 rfl) ?_
        refine lv_aload_n hx hb dR_countCuts_13 rfl (lv_at hl 0 rfl) ?_
        refine lv_iload_n hx hb dR_countCuts_14 rfl (lv_at hl 2 rfl) ?_
        refine vp_callSi (W.runV (C := NR) (As := [.int (nI kx)]) (rest := [.int (nI qx)]) ⟨hx, hb, hml, hown, hts⟩ (cR_isCut l D kI kJ kZ kG kH h0 tw q0 q1 q2 q3 q4 q5 q6 q7 bn ld vh lc cc cs kg re ro ba co od rw kx (by omega)) ⟨cB 1 hts hw470 hw7 hw467 (by decide +kernel) ⟨Nat.le_of_ble_eq_true rfl, Nat.le_of_ble_eq_true rfl⟩ rfl rfl, hts _ (gw_t _ hw469), hts _ (gw_t _ hs11)⟩ ⟨fun a U g mk q => ⟨q.1, q.2.calling g mk a⟩, va_recv hK hP (ci := 4) (q0 := 0) rfl rfl, fun U hU hW => ⟨rfl, wd.use hP hK hN hU hW⟩⟩ rfl rfl hl.1 rfl (lv_room (Nat.le_of_ble_eq_true rfl)) dR_countCuts_15 ⟨Nat.le_of_ble_eq_true rfl, Nat.le_of_ble_eq_true rfl⟩) (fun r15 hr15 => ?_)
        refine lv_if_eq (tgt := 25) hx hb dR_countCuts_18 (by decide) (fun c18 => ?_) (fun c18 => ?_)
        · have w18 := w_f hr15 c18
          refine lv_iconst (v := 0) hx hb dR_countCuts_25 (by decide) ?_
          refine lv_iadd hx hb dR_countCuts_26 ?_
          refine lc_i (y := nI (qx + 0)) (nI_add qx 0) ?_
          refine lv_istore_n (lv' := [(1, .int (nI (qx + 0))), (0, .ref h0), (2, .int (nI kx))]) hx hb dR_countCuts_27 rfl hl (by decide) rfl (fun ls hl => ?_)
          refine lv_iinc (v := nI (kx + 1)) (lv' := [(2, .int (nI (kx + 1))), (1, .int (nI (qx + 0))), (0, .ref h0)]) hx hb dR_countCuts_28 hl (k := 2) rfl (nI_add kx 1) (by decide) rfl (fun ls hl => ?_)
          refine lv_goto (tgt := 4) hx hb dR_countCuts_31 (by decide) ?_
          exact ih (kx + 1) (qx + 0) ls (by omega) (by omega) (by omega) (by omega) (by rw [hf, show 2 ^ bn - kx = (2 ^ bn - (kx + 1)) + 1 by omega]; simp only [cntF]; rw [if_neg w18]; omega) (lv_sub hl [2, 1, 0] rfl)
        · have w18 := w_t hr15 c18
          refine lv_iconst (v := 1) hx hb dR_countCuts_21 (by decide) ?_
          refine lv_goto (tgt := 26) hx hb dR_countCuts_22 (by decide) ?_
          refine lv_iadd hx hb dR_countCuts_26 ?_
          refine lc_i (y := nI (qx + 1)) (nI_add qx 1) ?_
          refine lv_istore_n (lv' := [(1, .int (nI (qx + 1))), (0, .ref h0), (2, .int (nI kx))]) hx hb dR_countCuts_27 rfl hl (by decide) rfl (fun ls hl => ?_)
          refine lv_iinc (v := nI (kx + 1)) (lv' := [(2, .int (nI (kx + 1))), (1, .int (nI (qx + 1))), (0, .ref h0)]) hx hb dR_countCuts_28 hl (k := 2) rfl (nI_add kx 1) (by decide) rfl (fun ls hl => ?_)
          refine lv_goto (tgt := 4) hx hb dR_countCuts_31 (by decide) ?_
          exact ih (kx + 1) (qx + 1) ls (by omega) (by omega) (by omega) (by omega) (by rw [hf, show 2 ^ bn - kx = (2 ^ bn - (kx + 1)) + 1 by omega]; simp only [cntF]; rw [if_pos w18]; omega) (lv_sub hl [2, 1, 0] rfl)
  refine lv_iconst (v := 0) hx hb dR_countCuts_0 (by decide) ?_
  refine lv_istore_n (lv' := [(1, .int 0), (0, .ref h0)]) hx hb dR_countCuts_1 rfl hl (by decide) rfl (fun ls hl => ?_)
  refine lv_iconst (v := 1) hx hb dR_countCuts_2 (by decide) ?_
  refine lv_istore_n (lv' := [(2, .int 1), (1, .int 0), (0, .ref h0)]) hx hb dR_countCuts_3 rfl hl (by decide) rfl (fun ls hl => ?_)
  exact LP4 _ 1 0 ls (Nat.lt_succ_self _) (by omega) (by omega) (by omega) (by simp) (lv_sub hl [2, 1, 0] rfl)

set_option maxHeartbeats 4000000 in
set_option maxRecDepth 100000 in
theorem cR_cutSet (l : Launch) (D : va_G) (kI kJ kZ kG kH : ClassId) (h0 : Nat) (tw : Nat) (q0 : Nat) (q1 : Nat) (q2 : Nat) (q3 : Nat) (q4 : Nat) (q5 : Nat) (q6 : Nat) (q7 : Nat) (bn : Nat) (ld : Int64) (vh : Int32) (lc : Nat) (cc : Nat) (cs : Nat → Int32) (kg : Nat → Int64) (re : Nat → Int32) (ro : Nat → Int32) (ba : Nat → Int32) (co : Nat → Int64) (od : Nat → Int32) (rw : Nat → Int32) (n : Int32) (hbn : bn ≤ 6) : Met l yR_cutSet wR_cutSet (rmL 1 0 0) (va_Pc [.ref h0, .int n] (fun U => wd D kI kJ kZ kG kH [(h0, .inr (4, [.ref tw, .int (nI bn), .long ld, .int vh, .int (nI lc), .int (nI cc), .ref q0, .ref q1, .ref q2, .ref q3, .ref q4, .ref q5, .ref q6, .ref q7])), (q0, .inl (kI, 63, .inl cs)), (q1, .inl (kJ, 64, .inr (.inl kg))), (q2, .inl (kI, 64, .inl re)), (q3, .inl (kI, 64, .inl ro)), (q4, .inl (kZ, 64, .inl ba)), (q5, .inl (kJ, 64, .inr (.inl co))), (q6, .inl (kI, 384, .inl od)), (q7, .inl (kI, 6, .inl rw))] U)) (vp_Si (fun r : Int32 => r = nI ((nthP (cutP ld kg) n (2 ^ bn - 1) 1 0).getD 0))) 0 0 (fun _ => False) := by
  refine Met.ofW (cc := bR_cutSet) (maxL := 4) (ret := (some .int)) (by decide) rfl ?_
  intro p e s m args below meth c s₁ B hml hv
  obtain ⟨rfl, hP, hK, hN⟩ := hv
  have hx := B.exec
  have hb := B.bytes
  have hr := B.returns
  have hts := atoms_spec (ws := wR_cutSet) B.pre
  have hown : s.vm.findClass NR = some m.cls := findClass_of_methodNamed B.named
  have hlocks := B.notSynchronized
  have hl := lv_entry ([.ref h0, .int n]) (n := 4) (Nat.le_of_ble_eq_true rfl)
  rw [lg_entry_eq]
  generalize (lg_sl ([.ref h0, .int n]) ++ List.replicate (4 - (lg_sl ([.ref h0, .int n])).length) Slot.unset).toArray = ls at hl ⊢
  have hl : lv_has ls 4 [(0, .ref h0), (1, .int n)] := hl
  have hp : 2 ^ bn ≤ 64 := Nat.le_trans (Nat.pow_le_pow_right (by decide) hbn) (by decide)
  have hp1 : 1 ≤ 2 ^ bn := Nat.one_le_two_pow
  have LP4 : ∀ (dd : Nat) (kx : Nat) (qx : Nat) (ls : Array Slot), 2 ^ bn - kx < dd → (1 ≤ kx) → (kx ≤ 2 ^ bn) → (qx < kx) → (nthP (cutP ld kg) n (2 ^ bn - 1) 1 0 = nthP (cutP ld kg) n (2 ^ bn - kx) kx qx) → lv_has ls 4 [(0, .ref h0), (1, .int n), (2, .int (nI qx)), (3, .int (nI kx))] → W p l e (headSpec wR_cutSet (rmL 1 0 0)).room s m ([.ref h0, .int n] : List Value).toArray below meth c s.heap [] 0 0 (MQ below (vp_Si (fun r : Int32 => r = nI ((nthP (cutP ld kg) n (2 ^ bn - 1) 1 0).getD 0))) ([.ref h0, .int n] : List Value).toArray s 0 0 (fun _ => False)) (F0 m 4 ls []) := by
    intro dd
    induction dd with
    | zero =>
      intro kx qx ls hm
      exact absurd hm (Nat.not_lt_zero _)
    | succ dd ih =>
      intro kx qx ls hm hk1 hk hq hf hl
      refine lv_iload_n hx hb dR_cutSet_4 rfl (lv_at hl 3 rfl) ?_
      refine lv_aload_n hx hb dR_cutSet_5 rfl (lv_at hl 0 rfl) ?_
      refine vp_callSi (W.runV (C := NR) (As := []) (rest := [.int (nI kx)]) ⟨hx, hb, hml, hown, hts⟩ (cR_setCount l D kI kJ kZ kG kH h0 tw q0 q1 q2 q3 q4 q5 q6 q7 bn ld vh lc cc cs kg re ro ba co od rw hbn) ⟨cB 0 hts hw453 hw7 hw450 (by decide +kernel) ⟨Nat.le_of_ble_eq_true rfl, Nat.le_of_ble_eq_true rfl⟩ rfl rfl, hts _ (gw_t _ hw452), hts _ (gw_t _ hs10)⟩ ⟨fun a U g mk q => ⟨q.1, q.2.calling g mk a⟩, va_recv hK hP (ci := 4) (q0 := 0) rfl rfl, fun U hU hW => ⟨rfl, wd.use hP hK hN hU hW⟩⟩ rfl rfl hl.1 rfl (lv_room (Nat.le_of_ble_eq_true rfl)) dR_cutSet_6 ⟨Nat.le_of_ble_eq_true rfl, Nat.le_of_ble_eq_true rfl⟩) (fun r6 hr6 => ?_)
      subst hr6
      refine lv_icmp_ge (tgt := 36) hx hb dR_cutSet_9 (by decide) (fun c9 => ?_) (fun c9 => ?_)
      · have c9 : 2 ^ bn ≤ kx := (nI_leI (a := 2 ^ bn) (b := kx) (by omega) (by omega)).mp c9
        refine lv_iconst (v := 0) hx hb dR_cutSet_36 (by decide) ?_
        exact W.iret (v := 0) hx hb hr (fun t ht9 hW9 => ⟨_, rfl, by rw [hf, show 2 ^ bn - kx = 0 by omega]; rfl, ht9⟩) t_nil dR_cutSet_37
      · have c9 : ¬ 2 ^ bn ≤ kx := mt (nI_leI (a := 2 ^ bn) (b := kx) (by omega) (by omega)).mpr c9
        refine lv_aload_n hx hb dR_cutSet_12 rfl (lv_at hl 0 rfl) ?_
        refine lv_iload_n hx hb dR_cutSet_13 rfl (lv_at hl 3 rfl) ?_
        refine vp_callSi (W.runV (C := NR) (As := [.int (nI kx)]) (rest := []) ⟨hx, hb, hml, hown, hts⟩ (cR_isCut l D kI kJ kZ kG kH h0 tw q0 q1 q2 q3 q4 q5 q6 q7 bn ld vh lc cc cs kg re ro ba co od rw kx (by omega)) ⟨cB 1 hts hw470 hw7 hw467 (by decide +kernel) ⟨Nat.le_of_ble_eq_true rfl, Nat.le_of_ble_eq_true rfl⟩ rfl rfl, hts _ (gw_t _ hw469), hts _ (gw_t _ hs11)⟩ ⟨fun a U g mk q => ⟨q.1, q.2.calling g mk a⟩, va_recv hK hP (ci := 4) (q0 := 0) rfl rfl, fun U hU hW => ⟨rfl, wd.use hP hK hN hU hW⟩⟩ rfl rfl hl.1 rfl (lv_room (Nat.le_of_ble_eq_true rfl)) dR_cutSet_14 ⟨Nat.le_of_ble_eq_true rfl, Nat.le_of_ble_eq_true rfl⟩) (fun r14 hr14 => ?_)
        refine lv_if_eq (tgt := 30) hx hb dR_cutSet_17 (by decide) (fun c17 => ?_) (fun c17 => ?_)
        · have w17 := w_f hr14 c17
          refine lv_iinc (v := nI (kx + 1)) (lv' := [(3, .int (nI (kx + 1))), (0, .ref h0), (1, .int n), (2, .int (nI qx))]) hx hb dR_cutSet_30 hl (k := 3) rfl (nI_add kx 1) (by decide) rfl (fun ls hl => ?_)
          refine lv_goto (tgt := 4) hx hb dR_cutSet_33 (by decide) ?_
          exact ih (kx + 1) qx ls (by omega) (by omega) (by omega) (by omega) (by rw [hf, show 2 ^ bn - kx = (2 ^ bn - (kx + 1)) + 1 by omega]; simp only [nthP]; rw [if_neg w17]) (lv_sub hl [1, 2, 3, 0] rfl)
        · have w17 := w_t hr14 c17
          refine lv_iload_n hx hb dR_cutSet_20 rfl (lv_at hl 2 rfl) ?_
          refine lv_iload_n hx hb dR_cutSet_21 rfl (lv_at hl 1 rfl) ?_
          refine lv_icmp_ne (tgt := 27) hx hb dR_cutSet_22 (by decide) (fun c22 => ?_) (fun c22 => ?_)
          · refine lv_iinc (v := nI (qx + 1)) (lv' := [(2, .int (nI (qx + 1))), (0, .ref h0), (1, .int n), (3, .int (nI kx))]) hx hb dR_cutSet_27 hl (k := 2) rfl (nI_add qx 1) (by decide) rfl (fun ls hl => ?_)
            refine lv_iinc (v := nI (kx + 1)) (lv' := [(3, .int (nI (kx + 1))), (2, .int (nI (qx + 1))), (0, .ref h0), (1, .int n)]) hx hb dR_cutSet_30 hl (k := 3) rfl (nI_add kx 1) (by decide) rfl (fun ls hl => ?_)
            refine lv_goto (tgt := 4) hx hb dR_cutSet_33 (by decide) ?_
            exact ih (kx + 1) (qx + 1) ls (by omega) (by omega) (by omega) (by omega) (by rw [hf, show 2 ^ bn - kx = (2 ^ bn - (kx + 1)) + 1 by omega]; simp only [nthP]; rw [if_pos w17, if_neg c22]) (lv_sub hl [2, 3, 1, 0] rfl)
          · refine lv_iload_n hx hb dR_cutSet_25 rfl (lv_at hl 3 rfl) ?_
            exact W.iret (v := nI kx) hx hb hr (fun t ht9 hW9 => ⟨_, rfl, by rw [hf, show 2 ^ bn - kx = (2 ^ bn - (kx + 1)) + 1 by omega]; simp only [nthP]; rw [if_pos w17, if_pos c22]; rfl, ht9⟩) t_nil dR_cutSet_26
  refine lv_iconst (v := 0) hx hb dR_cutSet_0 (by decide) ?_
  refine lv_istore_n (lv' := [(2, .int 0), (0, .ref h0), (1, .int n)]) hx hb dR_cutSet_1 rfl hl (by decide) rfl (fun ls hl => ?_)
  refine lv_iconst (v := 1) hx hb dR_cutSet_2 (by decide) ?_
  refine lv_istore_n (lv' := [(3, .int 1), (2, .int 0), (0, .ref h0), (1, .int n)]) hx hb dR_cutSet_3 rfl hl (by decide) rfl (fun ls hl => ?_)
  exact LP4 _ 1 0 ls (Nat.lt_succ_self _) (by omega) (by omega) (by omega) rfl (lv_sub hl [2, 3, 1, 0] rfl)
