/-! steps, columns, column, cuts, cut, bound of the class -/
theorem pcn_le (k : Nat) : pcn k ≤ 6 := by
  have h : ∀ (l : List Nat) (a : Nat), l.foldl (fun a b => if k.testBit b then a + 1 else a) a ≤ a + l.length := by
    intro l
    induction l with
    | nil => intro a; exact Nat.le_refl _
    | cons x t ih =>
      intro a
      show List.foldl _ (if k.testBit x then a + 1 else a) t ≤ a + (t.length + 1)
      by_cases h : k.testBit x
      · rw [if_pos h]; have := ih (a + 1); omega
      · rw [if_neg h]; have := ih a; omega
  have := h (List.range 6) 0
  simpa [pcn] using this
theorem ix_of {x : Int32} {n : Nat} (h : 0 ≤ x ∧ x < nI n) (hn : n < 2 ^ 31) : ∃ j : Nat, j < n ∧ x = nI j := by
  obtain ⟨j, hj, rfl⟩ := nI_of (Int32.not_lt.mpr h.1)
  exact ⟨j, (nI_ltI hj hn).mp h.2, rfl⟩
theorem nthP_lt (p : Nat → Bool) (n : Int32) : ∀ (f b q : Nat), b < b + f + 1 → (nthP p n f b q).getD 0 < b + f + 1
  | 0, b, q, _ => by simp [nthP]
  | f + 1, b, q, _ => by
    simp only [nthP]
    have h1 := nthP_lt p n f (b + 1) (q + 1) (by omega)
    have h2 := nthP_lt p n f (b + 1) q (by omega)
    split
    · split
      · simp only [Option.getD_some]; omega
      · omega
    · omega
set_option maxHeartbeats 4000000 in
set_option maxRecDepth 100000 in
theorem cR_binOfRound (l : Launch) (D : va_G) (kI kJ kZ kG kH : ClassId) (h0 : Nat) (tw : Nat) (q0 : Nat) (q1 : Nat) (q2 : Nat) (q3 : Nat) (q4 : Nat) (q5 : Nat) (q6 : Nat) (q7 : Nat) (bn : Nat) (ld : Int64) (vh : Int32) (lc : Nat) (cc : Nat) (cs : Nat → Int32) (kg : Nat → Int64) (re : Nat → Int32) (ro : Nat → Int32) (ba : Nat → Int32) (co : Nat → Int64) (od : Nat → Int32) (rw : Nat → Int32) (k : Nat) (i : Int32) (st : Nat) (hk : k < 63) (hst : st < 64) (hcs : cs k = nI st) : Met l yR_binOfRound wR_binOfRound (rmL 1 0 0) (va_Pc [.ref h0, .int (nI k), .int i] (fun U => wd D kI kJ kZ kG kH [(h0, .inr (4, [.ref tw, .int (nI bn), .long ld, .int vh, .int (nI lc), .int (nI cc), .ref q0, .ref q1, .ref q2, .ref q3, .ref q4, .ref q5, .ref q6, .ref q7])), (q0, .inl (kI, 63, .inl cs)), (q1, .inl (kJ, 64, .inr (.inl kg))), (q2, .inl (kI, 64, .inl re)), (q3, .inl (kI, 64, .inl ro)), (q4, .inl (kZ, 64, .inl ba)), (q5, .inl (kJ, 64, .inr (.inl co))), (q6, .inl (kI, 384, .inl od)), (q7, .inl (kI, 6, .inl rw))] U)) (vp_Si (fun r : Int32 => r = if 0 ≤ i ∧ i < nI (pcn st) then od (st * 6 + i.toNatClampNeg) else -1)) 0 0 (fun _ => False) := by
  refine Met.ofW (cc := bR_binOfRound) (maxL := 4) (ret := (some .int)) (by decide) rfl ?_
  intro p e s m args below meth c s₁ B hml hv
  obtain ⟨rfl, hP, hK, hN⟩ := hv
  have hx := B.exec
  have hb := B.bytes
  have hr := B.returns
  have hts := atoms_spec (ws := wR_binOfRound) B.pre
  have hown : s.vm.findClass NR = some m.cls := findClass_of_methodNamed B.named
  have hlocks := B.notSynchronized
  have hl := lv_entry ([.ref h0, .int (nI k), .int i]) (n := 4) (Nat.le_of_ble_eq_true rfl)
  rw [lg_entry_eq]
  generalize (lg_sl ([.ref h0, .int (nI k), .int i]) ++ List.replicate (4 - (lg_sl ([.ref h0, .int (nI k), .int i])).length) Slot.unset).toArray = ls at hl ⊢
  have hl : lv_has ls 4 [(0, .ref h0), (1, .int (nI k)), (2, .int i)] := hl
  refine lv_aload_n hx hb dR_binOfRound_0 rfl (lv_at hl 0 rfl) ?_
  refine va_get (D := D) (cl := rcl) (ci := 4) (v := .ref q0) (C := NR) (T := TR) (N := 14) hx hb hts (fun w h => gw_t w (uwR w h)) hown hK hP 0 rfl rfl 6 (by decide) (hts _ (gw_t _ hw176)) (fun _ h9 => h9) rfl dR_binOfRound_1 ?_
  refine lv_iload_n hx hb dR_binOfRound_4 rfl (lv_at hl 1 rfl) ?_
  refine ra_i (k := k) hx hb hK hP 1 0 rfl rfl (by omega) (by omega) dR_binOfRound_5 ?_
  refine lc_i (y := nI st) (hcs) ?_
  refine lv_istore_n (lv' := [(3, .int (nI st)), (0, .ref h0), (1, .int (nI k)), (2, .int i)]) hx hb dR_binOfRound_6 rfl hl (by decide) rfl (fun ls hl => ?_)
  refine lv_iload_n hx hb dR_binOfRound_7 rfl (lv_at hl 3 rfl) ?_
  refine lv_iload_n hx hb dR_binOfRound_8 rfl (lv_at hl 0 rfl) ?_
  refine vp_callSi (W.runS (As := [.int (nI st)]) (rest := [.int i]) ⟨hx, hb, hml, hown, hts⟩ (cJI_bitCount l st hst) ⟨cB 1 hts hw300 hw9 hw298 (by decide +kernel) ⟨Nat.le_of_ble_eq_true rfl, Nat.le_of_ble_eq_true rfl⟩ rfl rfl, hts _ (gw_t _ hw299)⟩ ⟨fun a U g mk q => ⟨q.1, trivial⟩, fun U hU hW => ⟨rfl, trivial⟩⟩ rfl rfl hl.1 rfl (lv_room (Nat.le_of_ble_eq_true rfl)) dR_binOfRound_9 ⟨Nat.le_of_ble_eq_true rfl, Nat.le_of_ble_eq_true rfl⟩) (fun r9 hr9 => ?_)
  subst hr9
  refine vp_callSi ((va_runSN (As := [.int i, .int (nI (pcn st))]) (rest := []) ⟨hx, hb, hml, hown, hts⟩ (cC_isIndex l i (nI (pcn st))) ⟨va_cnB (host := "RoundColumns") 2 hts (gw_good gw_t (gw_c hw269 gw_s)) rfl rfl rfl (hN.1 _ (by decide +kernel)) (hts _ (gw_t _ hw1)) (by decide +kernel) ⟨Nat.le_of_ble_eq_true rfl, Nat.le_of_ble_eq_true rfl⟩, hts _ (gw_t _ hw268), trivial⟩ ⟨fun a U g mk q => ⟨q.1, trivial⟩, fun U hU hW => ⟨rfl, trivial⟩⟩ rfl rfl hl.1 rfl (lv_room (Nat.le_of_ble_eq_true rfl)) dR_binOfRound_12 ⟨Nat.le_of_ble_eq_true rfl, Nat.le_of_ble_eq_true rfl⟩).run) (fun r12 hr12 => ?_)
  refine lv_if_eq (tgt := 32) hx hb dR_binOfRound_15 (by decide) (fun c15 => ?_) (fun c15 => ?_)
  · have w15 := w_f hr12 c15
    refine lv_iconst (v := -1) hx hb dR_binOfRound_32 (by decide) ?_
    exact W.iret (v := (-1)) hx hb hr (fun t ht9 hW9 => ⟨_, rfl, by rw [if_neg w15], ht9⟩) t_nil dR_binOfRound_33
  · have w15 := w_t hr12 c15
    have hp6 := pcn_le st
    obtain ⟨i9, hi9, rfl⟩ := ix_of w15 (by omega)
    refine lv_aload_n hx hb dR_binOfRound_18 rfl (lv_at hl 1 rfl) ?_
    refine va_get (D := D) (cl := rcl) (ci := 4) (v := .ref q6) (C := NR) (T := TR) (N := 14) hx hb hts (fun w h => gw_t w (uwR w h)) hown hK hP 0 rfl rfl 12 (by decide) (hts _ (gw_t _ hw188)) (fun _ h9 => h9) rfl dR_binOfRound_19 ?_
    refine lv_iload_n hx hb dR_binOfRound_22 rfl (lv_at hl 0 rfl) ?_
    refine lv_bipush (v := 6) hx hb dR_binOfRound_23 (by decide) ?_
    refine lv_imul hx hb dR_binOfRound_25 ?_
    refine lc_i (y := nI (st * 6)) (pk_mul st 6) ?_
    refine lv_iload_n hx hb dR_binOfRound_26 rfl (lv_at hl 3 rfl) ?_
    refine lv_iadd hx hb dR_binOfRound_27 ?_
    refine lc_i (y := nI (st * 6 + i9)) (nI_add (st * 6) i9) ?_
    refine ra_i (k := st * 6 + i9) hx hb hK hP 7 0 rfl rfl (by omega) (by omega) dR_binOfRound_28 ?_
    refine lv_goto (tgt := 33) hx hb dR_binOfRound_29 (by decide) ?_
    exact W.iret (v := od (st * 6 + i9)) hx hb hr (fun t ht9 hW9 => ⟨_, rfl, by rw [if_pos w15, nI_clamp (by omega)], ht9⟩) t_nil dR_binOfRound_33

set_option maxHeartbeats 4000000 in
set_option maxRecDepth 100000 in
theorem cC_steps (l : Launch) (D : va_G) (kI kJ kZ kG kH : ClassId) (h0 : Nat) (u : Nat) (x : Nat) (y : Nat) (f : Nat) (g : Nat) (wr : Int32) (f0 : Nat) (f1 : Nat) (f2 : Nat) (f3 : Nat) (f4 : Nat) (f5 : Nat) (f6 : Nat) (f7 : Nat) (bn : Nat) (ld : Int64) (vh : Int32) (lc : Nat) (cc : Nat) (cs : Nat → Int32) (kg : Nat → Int64) (re : Nat → Int32) (ro : Nat → Int32) (ba : Nat → Int32) (co : Nat → Int64) (od : Nat → Int32) (rw : Nat → Int32) : Met l yC_steps wC_steps (rmL 0 0 0) (va_Pc [.ref h0] (fun U => wd D kI kJ kZ kG kH [(h0, .inr (5, [.ref u, .ref x, .ref y, .ref f, .ref g, .int wr])), (f, .inr (4, [.ref u, .int (nI bn), .long ld, .int vh, .int (nI lc), .int (nI cc), .ref f0, .ref f1, .ref f2, .ref f3, .ref f4, .ref f5, .ref f6, .ref f7])), (f0, .inl (kI, 63, .inl cs)), (f1, .inl (kJ, 64, .inr (.inl kg))), (f2, .inl (kI, 64, .inl re)), (f3, .inl (kI, 64, .inl ro)), (f4, .inl (kZ, 64, .inl ba)), (f5, .inl (kJ, 64, .inr (.inl co))), (f6, .inl (kI, 384, .inl od)), (f7, .inl (kI, 6, .inl rw))] U)) (vp_Si (fun r : Int32 => r = nI lc)) 0 0 (fun _ => False) := by
  refine Met.ofW (cc := bC_steps) (maxL := 1) (ret := (some .int)) (by decide) rfl ?_
  intro p e s m args below meth c s₁ B hml hv
  obtain ⟨rfl, hP, hK, hN⟩ := hv
  have hx := B.exec
  have hb := B.bytes
  have hr := B.returns
  have hts := atoms_spec (ws := wC_steps) B.pre
  have hown : s.vm.findClass NC = some m.cls := findClass_of_methodNamed B.named
  have hlocks := B.notSynchronized
  have hl := lv_entry ([.ref h0]) (n := 1) (Nat.le_of_ble_eq_true rfl)
  rw [lg_entry_eq]
  generalize (lg_sl ([.ref h0]) ++ List.replicate (1 - (lg_sl ([.ref h0])).length) Slot.unset).toArray = ls at hl ⊢
  have hl : lv_has ls 1 [(0, .ref h0)] := hl
  refine lv_aload_n hx hb dC_steps_0 rfl (lv_at hl 0 rfl) ?_
  refine va_get (D := D) (cl := rcl) (ci := 5) (v := .ref f) (C := NC) (T := TC) (N := 6) hx hb hts (fun w h => gw_t w (uwC w h)) hown hK hP 0 rfl rfl 3 (by decide) (hts _ (gw_t _ hw223)) (fun _ h9 => h9) rfl dC_steps_1 ?_
  refine va_get (D := D) (cl := rcl) (ci := 4) (v := .int (nI lc)) (C := NR) (T := TR) (N := 14) hx hb hts (fun w h => gw_t w (uwR w h)) hown hK hP 1 rfl rfl 4 (by decide) (hts _ (gw_t _ hw171)) (fun _ h9 => h9) rfl dC_steps_4 ?_
  exact W.iret (v := nI lc) hx hb hr (fun t ht9 hW9 => ⟨_, rfl, rfl, ht9⟩) t_nil dC_steps_7

set_option maxHeartbeats 4000000 in
set_option maxRecDepth 100000 in
theorem cC_columns (l : Launch) (D : va_G) (kI kJ kZ kG kH : ClassId) (h0 : Nat) (u : Nat) (x : Nat) (y : Nat) (f : Nat) (g : Nat) (wr : Int32) (f0 : Nat) (f1 : Nat) (f2 : Nat) (f3 : Nat) (f4 : Nat) (f5 : Nat) (f6 : Nat) (f7 : Nat) (bn : Nat) (ld : Int64) (vh : Int32) (lc : Nat) (cc : Nat) (cs : Nat → Int32) (kg : Nat → Int64) (re : Nat → Int32) (ro : Nat → Int32) (ba : Nat → Int32) (co : Nat → Int64) (od : Nat → Int32) (rw : Nat → Int32) : Met l yC_columns wC_columns (rmL 0 0 0) (va_Pc [.ref h0] (fun U => wd D kI kJ kZ kG kH [(h0, .inr (5, [.ref u, .ref x, .ref y, .ref f, .ref g, .int wr])), (f, .inr (4, [.ref u, .int (nI bn), .long ld, .int vh, .int (nI lc), .int (nI cc), .ref f0, .ref f1, .ref f2, .ref f3, .ref f4, .ref f5, .ref f6, .ref f7])), (f0, .inl (kI, 63, .inl cs)), (f1, .inl (kJ, 64, .inr (.inl kg))), (f2, .inl (kI, 64, .inl re)), (f3, .inl (kI, 64, .inl ro)), (f4, .inl (kZ, 64, .inl ba)), (f5, .inl (kJ, 64, .inr (.inl co))), (f6, .inl (kI, 384, .inl od)), (f7, .inl (kI, 6, .inl rw))] U)) (vp_Si (fun r : Int32 => r = nI cc)) 0 0 (fun _ => False) := by
  refine Met.ofW (cc := bC_columns) (maxL := 1) (ret := (some .int)) (by decide) rfl ?_
  intro p e s m args below meth c s₁ B hml hv
  obtain ⟨rfl, hP, hK, hN⟩ := hv
  have hx := B.exec
  have hb := B.bytes
  have hr := B.returns
  have hts := atoms_spec (ws := wC_columns) B.pre
  have hown : s.vm.findClass NC = some m.cls := findClass_of_methodNamed B.named
  have hlocks := B.notSynchronized
  have hl := lv_entry ([.ref h0]) (n := 1) (Nat.le_of_ble_eq_true rfl)
  rw [lg_entry_eq]
  generalize (lg_sl ([.ref h0]) ++ List.replicate (1 - (lg_sl ([.ref h0])).length) Slot.unset).toArray = ls at hl ⊢
  have hl : lv_has ls 1 [(0, .ref h0)] := hl
  refine lv_aload_n hx hb dC_columns_0 rfl (lv_at hl 0 rfl) ?_
  refine va_get (D := D) (cl := rcl) (ci := 5) (v := .ref f) (C := NC) (T := TC) (N := 6) hx hb hts (fun w h => gw_t w (uwC w h)) hown hK hP 0 rfl rfl 3 (by decide) (hts _ (gw_t _ hw223)) (fun _ h9 => h9) rfl dC_columns_1 ?_
  refine va_get (D := D) (cl := rcl) (ci := 4) (v := .int (nI cc)) (C := NR) (T := TR) (N := 14) hx hb hts (fun w h => gw_t w (uwR w h)) hown hK hP 1 rfl rfl 5 (by decide) (hts _ (gw_t _ hw175)) (fun _ h9 => h9) rfl dC_columns_4 ?_
  exact W.iret (v := nI cc) hx hb hr (fun t ht9 hW9 => ⟨_, rfl, rfl, ht9⟩) t_nil dC_columns_7

set_option maxHeartbeats 4000000 in
set_option maxRecDepth 100000 in
theorem cC_cuts (l : Launch) (D : va_G) (kI kJ kZ kG kH : ClassId) (h0 : Nat) (u : Nat) (x : Nat) (y : Nat) (f : Nat) (g : Nat) (wr : Int32) (f0 : Nat) (f1 : Nat) (f2 : Nat) (f3 : Nat) (f4 : Nat) (f5 : Nat) (f6 : Nat) (f7 : Nat) (bn : Nat) (ld : Int64) (vh : Int32) (lc : Nat) (cc : Nat) (cs : Nat → Int32) (kg : Nat → Int64) (re : Nat → Int32) (ro : Nat → Int32) (ba : Nat → Int32) (co : Nat → Int64) (od : Nat → Int32) (rw : Nat → Int32) (hbn : bn ≤ 6) : Met l yC_cuts wC_cuts (rmL 2 0 0) (va_Pc [.ref h0] (fun U => wd D kI kJ kZ kG kH [(h0, .inr (5, [.ref u, .ref x, .ref y, .ref f, .ref g, .int wr])), (f, .inr (4, [.ref u, .int (nI bn), .long ld, .int vh, .int (nI lc), .int (nI cc), .ref f0, .ref f1, .ref f2, .ref f3, .ref f4, .ref f5, .ref f6, .ref f7])), (f0, .inl (kI, 63, .inl cs)), (f1, .inl (kJ, 64, .inr (.inl kg))), (f2, .inl (kI, 64, .inl re)), (f3, .inl (kI, 64, .inl ro)), (f4, .inl (kZ, 64, .inl ba)), (f5, .inl (kJ, 64, .inr (.inl co))), (f6, .inl (kI, 384, .inl od)), (f7, .inl (kI, 6, .inl rw))] U)) (vp_Si (fun r : Int32 => r = nI (cntF (cutP ld kg) (2 ^ bn - 1) 1))) 0 0 (fun _ => False) := by
  refine Met.ofW (cc := bC_cuts) (maxL := 1) (ret := (some .int)) (by decide) rfl ?_
  intro p e s m args below meth c s₁ B hml hv
  obtain ⟨rfl, hP, hK, hN⟩ := hv
  have hx := B.exec
  have hb := B.bytes
  have hr := B.returns
  have hts := atoms_spec (ws := wC_cuts) B.pre
  have hown : s.vm.findClass NC = some m.cls := findClass_of_methodNamed B.named
  have hlocks := B.notSynchronized
  have hl := lv_entry ([.ref h0]) (n := 1) (Nat.le_of_ble_eq_true rfl)
  rw [lg_entry_eq]
  generalize (lg_sl ([.ref h0]) ++ List.replicate (1 - (lg_sl ([.ref h0])).length) Slot.unset).toArray = ls at hl ⊢
  have hl : lv_has ls 1 [(0, .ref h0)] := hl
  refine lv_aload_n hx hb dC_cuts_0 rfl (lv_at hl 0 rfl) ?_
  refine va_get (D := D) (cl := rcl) (ci := 5) (v := .ref f) (C := NC) (T := TC) (N := 6) hx hb hts (fun w h => gw_t w (uwC w h)) hown hK hP 0 rfl rfl 3 (by decide) (hts _ (gw_t _ hw223)) (fun _ h9 => h9) rfl dC_cuts_1 ?_
  have hPc := hP.sub (ws' := [(f, .inr (4, [.ref u, .int (nI bn), .long ld, .int vh, .int (nI lc), .int (nI cc), .ref f0, .ref f1, .ref f2, .ref f3, .ref f4, .ref f5, .ref f6, .ref f7])), (f0, .inl (kI, 63, .inl cs)), (f1, .inl (kJ, 64, .inr (.inl kg))), (f2, .inl (kI, 64, .inl re)), (f3, .inl (kI, 64, .inl ro)), (f4, .inl (kZ, 64, .inl ba)), (f5, .inl (kJ, 64, .inr (.inl co))), (f6, .inl (kI, 384, .inl od)), (f7, .inl (kI, 6, .inl rw))]) [1, 2, 3, 4, 5, 6, 7, 8, 9] rfl
  refine vp_callSi (W.runV (C := NR) (As := []) (rest := []) ⟨hx, hb, hml, hown, hts⟩ (cR_countCuts l D kI kJ kZ kG kH f u f0 f1 f2 f3 f4 f5 f6 f7 bn ld vh lc cc cs kg re ro ba co od rw hbn) ⟨cB 0 hts hw466 hw7 hw463 (by decide +kernel) ⟨Nat.le_of_ble_eq_true rfl, Nat.le_of_ble_eq_true rfl⟩ rfl rfl, hts _ (gw_t _ hw464), hts _ (gw_t _ hw465)⟩ ⟨fun a U g mk q => ⟨q.1, q.2.calling g mk a⟩, va_recv hK hPc (ci := 4) (q0 := 0) rfl rfl, fun U hU hW => ⟨rfl, wd.use hPc hK hN hU hW⟩⟩ rfl rfl hl.1 rfl (lv_room (Nat.le_of_ble_eq_true rfl)) dC_cuts_4 ⟨Nat.le_of_ble_eq_true rfl, Nat.le_of_ble_eq_true rfl⟩) (fun r4 hr4 => ?_)
  exact W.iret (v := r4) hx hb hr (fun t ht9 hW9 => ⟨_, rfl, hr4, ht9⟩) t_nil dC_cuts_7

set_option maxHeartbeats 4000000 in
set_option maxRecDepth 100000 in
theorem cC_cut (l : Launch) (D : va_G) (kI kJ kZ kG kH : ClassId) (h0 : Nat) (u : Nat) (x : Nat) (y : Nat) (f : Nat) (g : Nat) (wr : Int32) (f0 : Nat) (f1 : Nat) (f2 : Nat) (f3 : Nat) (f4 : Nat) (f5 : Nat) (f6 : Nat) (f7 : Nat) (bn : Nat) (ld : Int64) (vh : Int32) (lc : Nat) (cc : Nat) (cs : Nat → Int32) (kg : Nat → Int64) (re : Nat → Int32) (ro : Nat → Int32) (ba : Nat → Int32) (co : Nat → Int64) (od : Nat → Int32) (rw : Nat → Int32) (k : Int32) (i : Int32) (hbn : bn ≤ 6) : Met l yC_cut wC_cut (rmL 2 0 0) (va_Pc [.ref h0, .int k, .int i] (fun U => wd D kI kJ kZ kG kH [(h0, .inr (5, [.ref u, .ref x, .ref y, .ref f, .ref g, .int wr])), (f, .inr (4, [.ref u, .int (nI bn), .long ld, .int vh, .int (nI lc), .int (nI cc), .ref f0, .ref f1, .ref f2, .ref f3, .ref f4, .ref f5, .ref f6, .ref f7])), (f0, .inl (kI, 63, .inl cs)), (f1, .inl (kJ, 64, .inr (.inl kg))), (f2, .inl (kI, 64, .inl re)), (f3, .inl (kI, 64, .inl ro)), (f4, .inl (kZ, 64, .inl ba)), (f5, .inl (kJ, 64, .inr (.inl co))), (f6, .inl (kI, 384, .inl od)), (f7, .inl (kI, 6, .inl rw))] U)) (vp_Si (fun r : Int32 => r = nthF ((nthP (cutP ld kg) k (2 ^ bn - 1) 1 0).getD 0) i 6 0 0)) 0 0 (fun _ => False) := by
  refine Met.ofW (cc := bC_cut) (maxL := 3) (ret := (some .int)) (by decide) rfl ?_
  intro p e s m args below meth c s₁ B hml hv
  obtain ⟨rfl, hP, hK, hN⟩ := hv
  have hx := B.exec
  have hb := B.bytes
  have hr := B.returns
  have hts := atoms_spec (ws := wC_cut) B.pre
  have hown : s.vm.findClass NC = some m.cls := findClass_of_methodNamed B.named
  have hlocks := B.notSynchronized
  have hl := lv_entry ([.ref h0, .int k, .int i]) (n := 3) (Nat.le_of_ble_eq_true rfl)
  rw [lg_entry_eq]
  generalize (lg_sl ([.ref h0, .int k, .int i]) ++ List.replicate (3 - (lg_sl ([.ref h0, .int k, .int i])).length) Slot.unset).toArray = ls at hl ⊢
  have hl : lv_has ls 3 [(0, .ref h0), (1, .int k), (2, .int i)] := hl
  refine lv_aload_n hx hb dC_cut_0 rfl (lv_at hl 0 rfl) ?_
  refine va_get (D := D) (cl := rcl) (ci := 5) (v := .ref f) (C := NC) (T := TC) (N := 6) hx hb hts (fun w h => gw_t w (uwC w h)) hown hK hP 0 rfl rfl 3 (by decide) (hts _ (gw_t _ hw223)) (fun _ h9 => h9) rfl dC_cut_1 ?_
  refine lv_iload_n hx hb dC_cut_4 rfl (lv_at hl 1 rfl) ?_
  have hPc := hP.sub (ws' := [(f, .inr (4, [.ref u, .int (nI bn), .long ld, .int vh, .int (nI lc), .int (nI cc), .ref f0, .ref f1, .ref f2, .ref f3, .ref f4, .ref f5, .ref f6, .ref f7])), (f0, .inl (kI, 63, .inl cs)), (f1, .inl (kJ, 64, .inr (.inl kg))), (f2, .inl (kI, 64, .inl re)), (f3, .inl (kI, 64, .inl ro)), (f4, .inl (kZ, 64, .inl ba)), (f5, .inl (kJ, 64, .inr (.inl co))), (f6, .inl (kI, 384, .inl od)), (f7, .inl (kI, 6, .inl rw))]) [1, 2, 3, 4, 5, 6, 7, 8, 9] rfl
  refine vp_callSi (W.runV (C := NR) (As := [.int k]) (rest := []) ⟨hx, hb, hml, hown, hts⟩ (cR_cutSet l D kI kJ kZ kG kH f u f0 f1 f2 f3 f4 f5 f6 f7 bn ld vh lc cc cs kg re ro ba co od rw k hbn) ⟨cB 1 hts hw478 hw7 hw475 (by decide +kernel) ⟨Nat.le_of_ble_eq_true rfl, Nat.le_of_ble_eq_true rfl⟩ rfl rfl, hts _ (gw_t _ hw476), hts _ (gw_t _ hw477)⟩ ⟨fun a U g mk q => ⟨q.1, q.2.calling g mk a⟩, va_recv hK hPc (ci := 4) (q0 := 0) rfl rfl, fun U hU hW => ⟨rfl, wd.use hPc hK hN hU hW⟩⟩ rfl rfl hl.1 rfl (lv_room (Nat.le_of_ble_eq_true rfl)) dC_cut_5 ⟨Nat.le_of_ble_eq_true rfl, Nat.le_of_ble_eq_true rfl⟩) (fun r5 hr5 => ?_)
  subst hr5
  have hp : 2 ^ bn ≤ 64 := Nat.le_trans (Nat.pow_le_pow_right (by decide) hbn) (by decide)
  have hlt := nthP_lt (cutP ld kg) k (2 ^ bn - 1) 1 0 (by omega)
  refine lv_iload_n hx hb dC_cut_8 rfl (lv_at hl 2 rfl) ?_
  refine vp_callSi (W.runS (As := [.int (nI ((nthP (cutP ld kg) k (2 ^ bn - 1) 1 0).getD 0)), .int i]) (rest := []) ⟨hx, hb, hml, hown, hts⟩ (cC_nthBin l ((nthP (cutP ld kg) k (2 ^ bn - 1) 1 0).getD 0) i (by omega)) ⟨cB 2 hts hw456 hw1 hw479 (by decide +kernel) ⟨Nat.le_of_ble_eq_true rfl, Nat.le_of_ble_eq_true rfl⟩ rfl rfl, hts _ (gw_t _ hw455)⟩ ⟨fun a U g mk q => ⟨q.1, trivial⟩, fun U hU hW => ⟨rfl, trivial⟩⟩ rfl rfl hl.1 rfl (lv_room (Nat.le_of_ble_eq_true rfl)) dC_cut_9 ⟨Nat.le_of_ble_eq_true rfl, Nat.le_of_ble_eq_true rfl⟩) (fun r9 hr9 => ?_)
  exact W.iret (v := r9) hx hb hr (fun t ht9 hW9 => ⟨_, rfl, hr9, ht9⟩) t_nil dC_cut_12

set_option maxHeartbeats 4000000 in
set_option maxRecDepth 100000 in
theorem cC_column (l : Launch) (D : va_G) (kI kJ kZ kG kH : ClassId) (h0 : Nat) (u : Nat) (x : Nat) (y : Nat) (f : Nat) (g : Nat) (wr : Int32) (f0 : Nat) (f1 : Nat) (f2 : Nat) (f3 : Nat) (f4 : Nat) (f5 : Nat) (f6 : Nat) (f7 : Nat) (bn : Nat) (ld : Int64) (vh : Int32) (lc : Nat) (cc : Nat) (cs : Nat → Int32) (kg : Nat → Int64) (re : Nat → Int32) (ro : Nat → Int32) (ba : Nat → Int32) (co : Nat → Int64) (od : Nat → Int32) (rw : Nat → Int32) (k : Int32) (i : Int32) (sf : Nat → Nat) (hcc : cc ≤ 63) (hcs : ∀ j, j < cc → sf j < 64 ∧ cs j = nI (sf j)) : Met l yC_column wC_column (rmL 2 0 0) (va_Pc [.ref h0, .int k, .int i] (fun U => wd D kI kJ kZ kG kH [(h0, .inr (5, [.ref u, .ref x, .ref y, .ref f, .ref g, .int wr])), (f, .inr (4, [.ref u, .int (nI bn), .long ld, .int vh, .int (nI lc), .int (nI cc), .ref f0, .ref f1, .ref f2, .ref f3, .ref f4, .ref f5, .ref f6, .ref f7])), (f0, .inl (kI, 63, .inl cs)), (f1, .inl (kJ, 64, .inr (.inl kg))), (f2, .inl (kI, 64, .inl re)), (f3, .inl (kI, 64, .inl ro)), (f4, .inl (kZ, 64, .inl ba)), (f5, .inl (kJ, 64, .inr (.inl co))), (f6, .inl (kI, 384, .inl od)), (f7, .inl (kI, 6, .inl rw))] U)) (vp_Si (fun r : Int32 => r = if 0 ≤ k ∧ k < nI cc then (if 0 ≤ i ∧ i < nI (pcn (sf k.toNatClampNeg)) then od (sf k.toNatClampNeg * 6 + i.toNatClampNeg) else -1) else -1)) 0 0 (fun _ => False) := by
  refine Met.ofW (cc := bC_column) (maxL := 3) (ret := (some .int)) (by decide) rfl ?_
  intro p e s m args below meth c s₁ B hml hv
  obtain ⟨rfl, hP, hK, hN⟩ := hv
  have hx := B.exec
  have hb := B.bytes
  have hr := B.returns
  have hts := atoms_spec (ws := wC_column) B.pre
  have hown : s.vm.findClass NC = some m.cls := findClass_of_methodNamed B.named
  have hlocks := B.notSynchronized
  have hl := lv_entry ([.ref h0, .int k, .int i]) (n := 3) (Nat.le_of_ble_eq_true rfl)
  rw [lg_entry_eq]
  generalize (lg_sl ([.ref h0, .int k, .int i]) ++ List.replicate (3 - (lg_sl ([.ref h0, .int k, .int i])).length) Slot.unset).toArray = ls at hl ⊢
  have hl : lv_has ls 3 [(0, .ref h0), (1, .int k), (2, .int i)] := hl
  refine lv_iload_n hx hb dC_column_0 rfl (lv_at hl 1 rfl) ?_
  refine lv_aload_n hx hb dC_column_1 rfl (lv_at hl 0 rfl) ?_
  refine va_get (D := D) (cl := rcl) (ci := 5) (v := .ref f) (C := NC) (T := TC) (N := 6) hx hb hts (fun w h => gw_t w (uwC w h)) hown hK hP 0 rfl rfl 3 (by decide) (hts _ (gw_t _ hw223)) (fun _ h9 => h9) rfl dC_column_2 ?_
  refine va_get (D := D) (cl := rcl) (ci := 4) (v := .int (nI cc)) (C := NR) (T := TR) (N := 14) hx hb hts (fun w h => gw_t w (uwR w h)) hown hK hP 1 rfl rfl 5 (by decide) (hts _ (gw_t _ hw175)) (fun _ h9 => h9) rfl dC_column_5 ?_
  refine vp_callSi (W.runS (As := [.int k, .int (nI cc)]) (rest := []) ⟨hx, hb, hml, hown, hts⟩ (cC_isIndex l k (nI cc)) ⟨cB 2 hts hw269 hw1 hw267 (by decide +kernel) ⟨Nat.le_of_ble_eq_true rfl, Nat.le_of_ble_eq_true rfl⟩ rfl rfl, hts _ (gw_t _ hw268)⟩ ⟨fun a U g mk q => ⟨q.1, trivial⟩, fun U hU hW => ⟨rfl, trivial⟩⟩ rfl rfl hl.1 rfl (lv_room (Nat.le_of_ble_eq_true rfl)) dC_column_8 ⟨Nat.le_of_ble_eq_true rfl, Nat.le_of_ble_eq_true rfl⟩) (fun r8 hr8 => ?_)
  refine lv_if_eq (tgt := 26) hx hb dC_column_11 (by decide) (fun c11 => ?_) (fun c11 => ?_)
  · have w11 := w_f hr8 c11
    refine lv_iconst (v := -1) hx hb dC_column_26 (by decide) ?_
    exact W.iret (v := (-1)) hx hb hr (fun t ht9 hW9 => ⟨_, rfl, by rw [if_neg w11], ht9⟩) t_nil dC_column_27
  · have w11 := w_t hr8 c11
    obtain ⟨k9, hk9, rfl⟩ := ix_of w11 (by omega)
    refine lv_aload_n hx hb dC_column_14 rfl (lv_at hl 0 rfl) ?_
    refine va_get (D := D) (cl := rcl) (ci := 5) (v := .ref f) (C := NC) (T := TC) (N := 6) hx hb hts (fun w h => gw_t w (uwC w h)) hown hK hP 0 rfl rfl 3 (by decide) (hts _ (gw_t _ hw223)) (fun _ h9 => h9) rfl dC_column_15 ?_
    refine lv_iload_n hx hb dC_column_18 rfl (lv_at hl 1 rfl) ?_
    refine lv_iload_n hx hb dC_column_19 rfl (lv_at hl 2 rfl) ?_
    have hPc := hP.sub (ws' := [(f, .inr (4, [.ref u, .int (nI bn), .long ld, .int vh, .int (nI lc), .int (nI cc), .ref f0, .ref f1, .ref f2, .ref f3, .ref f4, .ref f5, .ref f6, .ref f7])), (f0, .inl (kI, 63, .inl cs)), (f1, .inl (kJ, 64, .inr (.inl kg))), (f2, .inl (kI, 64, .inl re)), (f3, .inl (kI, 64, .inl ro)), (f4, .inl (kZ, 64, .inl ba)), (f5, .inl (kJ, 64, .inr (.inl co))), (f6, .inl (kI, 384, .inl od)), (f7, .inl (kI, 6, .inl rw))]) [1, 2, 3, 4, 5, 6, 7, 8, 9] rfl
    refine vp_callSi (W.runV (C := NR) (As := [.int (nI k9), .int i]) (rest := []) ⟨hx, hb, hml, hown, hts⟩ (cR_binOfRound l D kI kJ kZ kG kH f u f0 f1 f2 f3 f4 f5 f6 f7 bn ld vh lc cc cs kg re ro ba co od rw k9 i (sf k9) (by omega) (hcs k9 hk9).1 (hcs k9 hk9).2) ⟨cB 2 hts hw297 hw7 hw294 (by decide +kernel) ⟨Nat.le_of_ble_eq_true rfl, Nat.le_of_ble_eq_true rfl⟩ rfl rfl, hts _ (gw_t _ hw295), hts _ (gw_t _ hw296)⟩ ⟨fun a U g mk q => ⟨q.1, q.2.calling g mk a⟩, va_recv hK hPc (ci := 4) (q0 := 0) rfl rfl, fun U hU hW => ⟨rfl, wd.use hPc hK hN hU hW⟩⟩ rfl rfl hl.1 rfl (lv_room (Nat.le_of_ble_eq_true rfl)) dC_column_20 ⟨Nat.le_of_ble_eq_true rfl, Nat.le_of_ble_eq_true rfl⟩) (fun r20 hr20 => ?_)
    refine lv_goto (tgt := 27) hx hb dC_column_23 (by decide) ?_
    exact W.iret (v := r20) hx hb hr (fun t ht9 hW9 => ⟨_, rfl, by rw [if_pos w11, nI_clamp (by omega)]; exact hr20, ht9⟩) t_nil dC_column_27

set_option maxHeartbeats 4000000 in
set_option maxRecDepth 100000 in
theorem cC_bound (l : Launch) (D : va_G) (kI kJ kZ kG kH : ClassId) (h0 : Nat) (u : Nat) (x : Nat) (y : Nat) (f : Nat) (g : Nat) (wr : Int32) (an : Int32) (x0 : Nat) (x1 : Nat) (x2 : Nat) (x3 : Nat) (x4 : Nat) (xa : Nat) (xb : Nat) (xc : Nat) (kn : Nat → Int32) (tp : Nat → Int64) (bt : Nat → Int64) (pt : Int32) : Met l yC_bound wC_bound (rmL 1 0 0) (va_Pc [.ref h0, .int pt] (fun U => wd D kI kJ kZ kG kH [(h0, .inr (5, [.ref u, .ref x, .ref y, .ref f, .ref g, .int wr])), (x, .inr (3, [.int an, .ref x0, .ref x1, .ref x2, .ref x3, .ref x4])), (x0, .inr (1, [.ref xa, .ref xb, .ref xc])), (xa, .inl (kZ, 1, .inl kn)), (xb, .inl (kJ, 1, .inr (.inl tp))), (xc, .inl (kJ, 1, .inr (.inl bt)))] U)) (vp_Sl (fun r : Int64 => r = if pt = 0 then tp 0 else if pt = 1 then bt 0 else 0)) 0 0 (fun _ => False) := by
  refine Met.ofW (cc := bC_bound) (maxL := 2) (ret := (some .long)) (by decide) rfl ?_
  intro p e s m args below meth c s₁ B hml hv
  obtain ⟨rfl, hP, hK, hN⟩ := hv
  have hx := B.exec
  have hb := B.bytes
  have hr := B.returns
  have hts := atoms_spec (ws := wC_bound) B.pre
  have hown : s.vm.findClass NC = some m.cls := findClass_of_methodNamed B.named
  have hlocks := B.notSynchronized
  have hl := lv_entry ([.ref h0, .int pt]) (n := 2) (Nat.le_of_ble_eq_true rfl)
  rw [lg_entry_eq]
  generalize (lg_sl ([.ref h0, .int pt]) ++ List.replicate (2 - (lg_sl ([.ref h0, .int pt])).length) Slot.unset).toArray = ls at hl ⊢
  have hl : lv_has ls 2 [(0, .ref h0), (1, .int pt)] := hl
  refine lv_aload_n hx hb dC_bound_0 rfl (lv_at hl 0 rfl) ?_
  refine va_get (D := D) (cl := rcl) (ci := 5) (v := .ref x) (C := NC) (T := TC) (N := 6) hx hb hts (fun w h => gw_t w (uwC w h)) hown hK hP 0 rfl rfl 1 (by decide) (hts _ (gw_t _ hw221)) (fun _ h9 => h9) rfl dC_bound_1 ?_
  refine va_get (D := D) (cl := rcl) (ci := 3) (v := .ref x0) (C := NX) (T := TX) (N := 6) hx hb hts (fun w h => gw_t w (uwX w h)) hown hK hP 1 rfl rfl 1 (by decide) (hts _ (gw_t _ hw136)) (fun _ h9 => h9) rfl dC_bound_4 ?_
  refine lv_iconst (v := 0) hx hb dC_bound_7 (by decide) ?_
  refine lv_iload_n hx hb dC_bound_8 rfl (lv_at hl 1 rfl) ?_
  have hPc := hP.sub (ws' := [(x0, .inr (1, [.ref xa, .ref xb, .ref xc])), (xa, .inl (kZ, 1, .inl kn)), (xb, .inl (kJ, 1, .inr (.inl tp))), (xc, .inl (kJ, 1, .inr (.inl bt)))]) [2, 3, 4, 5] rfl
  refine vp_callSl (W.runV (C := NF) (As := [.int 0, .int pt]) (rest := []) ⟨hx, hb, hml, hown, hts⟩ (cF_tell l D kI kJ kZ kG kH x0 xa xb xc 1 kn tp bt 0 pt (by decide) (by decide)) ⟨cB 2 hts hw312 hw5 hw309 (by decide +kernel) ⟨Nat.le_of_ble_eq_true rfl, Nat.le_of_ble_eq_true rfl⟩ rfl rfl, hts _ (gw_t _ hw310), hts _ (gw_t _ hw311)⟩ ⟨fun a U g mk q => ⟨q.1, q.2.calling g mk a⟩, va_recv hK hPc (ci := 1) (q0 := 0) rfl rfl, fun U hU hW => ⟨rfl, wd.use hPc hK hN hU hW⟩⟩ rfl rfl hl.1 rfl (lv_room (Nat.le_of_ble_eq_true rfl)) dC_bound_9 ⟨Nat.le_of_ble_eq_true rfl, Nat.le_of_ble_eq_true rfl⟩) (fun r9 hr9 => ?_)
  exact W.lret (v := r9) hx hb hr (fun t ht9 hW9 => ⟨_, rfl, hr9, ht9⟩) t_nil dC_bound_12
