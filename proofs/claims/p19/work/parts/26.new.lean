/-! the class before anything was found; way of both sides -/
theorem ix_0 {x r : Int32} {n : Nat} {p : Prop} (h : r = if 0 ≤ x ∧ x < nI n then 1 else 0) (c : ¬ r = 0) (h0 : n = 0) : p := by
  subst h0
  have w := w_t h c
  exact absurd (Int32.lt_of_le_of_lt w.1 w.2) (by decide)
theorem ix_le {x : Int32} {n : Nat} (h : 0 ≤ x.toInt64 ∧ x.toInt64 ≤ (nI n).toInt64) (hn : n < 2 ^ 31) : ∃ j : Nat, j ≤ n ∧ x = nI j := by
  have h1 := Int64.le_iff_toInt_le.mp h.1
  have h2 := Int64.le_iff_toInt_le.mp h.2
  rw [Int32.toInt_toInt64] at h1 h2
  rw [Int32.toInt_toInt64, nI_toInt hn] at h2
  have h0 : (0 : Int64).toInt = 0 := by decide
  rw [h0] at h1
  obtain ⟨j, hj, rfl⟩ := nI_of (x := x) (fun q => by have := Int32.lt_iff_toInt_lt.mp q; rw [show (0 : Int32).toInt = 0 by decide] at this; omega)
  rw [nI_toInt hj] at h2
  exact ⟨j, by omega, rfl⟩
def okW (bn : Nat) (a b se : Int32) (co : Int64) : Prop := (0 ≤ a.toInt64 ∧ a.toInt64 ≤ (nI bn).toInt64) ∧ (0 ≤ b.toInt64 ∧ b.toInt64 ≤ (nI bn).toInt64) ∧ ¬ a = b ∧ (0 ≤ se.toInt64 ∧ se.toInt64 ≤ 1000) ∧ (0 ≤ co ∧ co ≤ 2000)
set_option maxHeartbeats 4000000 in
set_option maxRecDepth 100000 in
theorem cC_dual_0 (l : Launch) (D : va_G) (kI kJ kZ kG kH : ClassId) (h0 : Nat) (u : Nat) (x : Nat) (y : Nat) (f : Nat) (g : Nat) (wr : Int32) (f0 : Nat) (f1 : Nat) (f2 : Nat) (f3 : Nat) (f4 : Nat) (f5 : Nat) (f6 : Nat) (f7 : Nat) (bn : Nat) (ld : Int64) (vh : Int32) (lc : Nat) (cc : Nat) (cs : Nat → Int32) (kg : Nat → Int64) (re : Nat → Int32) (ro : Nat → Int32) (ba : Nat → Int32) (co : Nat → Int64) (od : Nat → Int32) (rw : Nat → Int32) (b : Int32) (pt : Int32) (h9 : bn = 0) : Met l yC_dual wC_dual (rmL 1 0 0) (va_Pc [.ref h0, .int b, .int pt] (fun U => wd D kI kJ kZ kG kH [(h0, .inr (5, [.ref u, .ref x, .ref y, .ref f, .ref g, .int wr])), (f, .inr (4, [.ref u, .int (nI bn), .long ld, .int vh, .int (nI lc), .int (nI cc), .ref f0, .ref f1, .ref f2, .ref f3, .ref f4, .ref f5, .ref f6, .ref f7])), (f0, .inl (kI, 63, .inl cs)), (f1, .inl (kJ, 64, .inr (.inl kg))), (f2, .inl (kI, 64, .inl re)), (f3, .inl (kI, 64, .inl ro)), (f4, .inl (kZ, 64, .inl ba)), (f5, .inl (kJ, 64, .inr (.inl co))), (f6, .inl (kI, 384, .inl od)), (f7, .inl (kI, 6, .inl rw))] U)) (vp_Sl (fun r : Int64 => r = 0)) 0 0 (fun _ => False) := by
  refine Met.ofW (cc := bC_dual) (maxL := 3) (ret := (some .long)) (by decide) rfl ?_
  intro p e s m args below meth c s₁ B hml hv
  obtain ⟨rfl, hP, hK, hN⟩ := hv
  have hx := B.exec
  have hb := B.bytes
  have hr := B.returns
  have hts := atoms_spec (ws := wC_dual) B.pre
  have hown : s.vm.findClass NC = some m.cls := findClass_of_methodNamed B.named
  have hlocks := B.notSynchronized
  have hl := lv_entry ([.ref h0, .int b, .int pt]) (n := 3) (Nat.le_of_ble_eq_true rfl)
  rw [lg_entry_eq]
  generalize (lg_sl ([.ref h0, .int b, .int pt]) ++ List.replicate (3 - (lg_sl ([.ref h0, .int b, .int pt])).length) Slot.unset).toArray = ls at hl ⊢
  have hl : lv_has ls 3 [(0, .ref h0), (1, .int b), (2, .int pt)] := hl
  refine lv_iload_n hx hb dC_dual_0 rfl (lv_at hl 1 rfl) ?_
  refine lv_aload_n hx hb dC_dual_1 rfl (lv_at hl 0 rfl) ?_
  refine va_get (D := D) (cl := rcl) (ci := 5) (v := .ref f) (C := NC) (T := TC) (N := 6) hx hb hts (fun w h => gw_t w (uwC w h)) hown hK hP 0 rfl rfl 3 (by decide) (hts _ (gw_t _ hw223)) (fun _ h9 => h9) rfl dC_dual_2 ?_
  refine va_get (D := D) (cl := rcl) (ci := 4) (v := .int (nI bn)) (C := NR) (T := TR) (N := 14) hx hb hts (fun w h => gw_t w (uwR w h)) hown hK hP 1 rfl rfl 1 (by decide) (hts _ (gw_t _ hw166)) (fun _ h9 => h9) rfl dC_dual_5 ?_
  refine vp_callSi (W.runS (As := [.int b, .int (nI bn)]) (rest := []) ⟨hx, hb, hml, hown, hts⟩ (cC_isIndex l b (nI bn)) ⟨cB 2 hts hw269 hw1 hw267 (by decide +kernel) ⟨Nat.le_of_ble_eq_true rfl, Nat.le_of_ble_eq_true rfl⟩ rfl rfl, hts _ (gw_t _ hw268)⟩ ⟨fun a U g mk q => ⟨q.1, trivial⟩, fun U hU hW => ⟨rfl, trivial⟩⟩ rfl rfl hl.1 rfl (lv_room (Nat.le_of_ble_eq_true rfl)) dC_dual_8 ⟨Nat.le_of_ble_eq_true rfl, Nat.le_of_ble_eq_true rfl⟩) (fun r8 hr8 => ?_)
  refine lv_if_eq (tgt := 30) hx hb dC_dual_11 (by decide) (fun c11 => ?_) (fun c11 => ?_)
  · refine lv_lconst (v := 0) hx hb dC_dual_30 (by decide) ?_
    exact W.lret (v := 0) hx hb hr (fun t ht9 hW9 => ⟨_, rfl, rfl, ht9⟩) t_nil dC_dual_31
  · exact ix_0 hr8 c11 h9

set_option maxHeartbeats 4000000 in
set_option maxRecDepth 100000 in
theorem cC_used_0 (l : Launch) (D : va_G) (kI kJ kZ kG kH : ClassId) (h0 : Nat) (u : Nat) (x : Nat) (y : Nat) (f : Nat) (g : Nat) (wr : Int32) (f0 : Nat) (f1 : Nat) (f2 : Nat) (f3 : Nat) (f4 : Nat) (f5 : Nat) (f6 : Nat) (f7 : Nat) (bn : Nat) (ld : Int64) (vh : Int32) (lc : Nat) (cc : Nat) (cs : Nat → Int32) (kg : Nat → Int64) (re : Nat → Int32) (ro : Nat → Int32) (ba : Nat → Int32) (co : Nat → Int64) (od : Nat → Int32) (rw : Nat → Int32) (b : Int32) (pt : Int32) (h9 : cc = 0) : Met l yC_used wC_used (rmL 1 0 0) (va_Pc [.ref h0, .int b, .int pt] (fun U => wd D kI kJ kZ kG kH [(h0, .inr (5, [.ref u, .ref x, .ref y, .ref f, .ref g, .int wr])), (f, .inr (4, [.ref u, .int (nI bn), .long ld, .int vh, .int (nI lc), .int (nI cc), .ref f0, .ref f1, .ref f2, .ref f3, .ref f4, .ref f5, .ref f6, .ref f7])), (f0, .inl (kI, 63, .inl cs)), (f1, .inl (kJ, 64, .inr (.inl kg))), (f2, .inl (kI, 64, .inl re)), (f3, .inl (kI, 64, .inl ro)), (f4, .inl (kZ, 64, .inl ba)), (f5, .inl (kJ, 64, .inr (.inl co))), (f6, .inl (kI, 384, .inl od)), (f7, .inl (kI, 6, .inl rw))] U)) (vp_Sl (fun r : Int64 => r = 0)) 0 0 (fun _ => False) := by
  refine Met.ofW (cc := bC_used) (maxL := 3) (ret := (some .long)) (by decide) rfl ?_
  intro p e s m args below meth c s₁ B hml hv
  obtain ⟨rfl, hP, hK, hN⟩ := hv
  have hx := B.exec
  have hb := B.bytes
  have hr := B.returns
  have hts := atoms_spec (ws := wC_used) B.pre
  have hown : s.vm.findClass NC = some m.cls := findClass_of_methodNamed B.named
  have hlocks := B.notSynchronized
  have hl := lv_entry ([.ref h0, .int b, .int pt]) (n := 3) (Nat.le_of_ble_eq_true rfl)
  rw [lg_entry_eq]
  generalize (lg_sl ([.ref h0, .int b, .int pt]) ++ List.replicate (3 - (lg_sl ([.ref h0, .int b, .int pt])).length) Slot.unset).toArray = ls at hl ⊢
  have hl : lv_has ls 3 [(0, .ref h0), (1, .int b), (2, .int pt)] := hl
  refine lv_iload_n hx hb dC_used_0 rfl (lv_at hl 1 rfl) ?_
  refine lv_aload_n hx hb dC_used_1 rfl (lv_at hl 0 rfl) ?_
  refine va_get (D := D) (cl := rcl) (ci := 5) (v := .ref f) (C := NC) (T := TC) (N := 6) hx hb hts (fun w h => gw_t w (uwC w h)) hown hK hP 0 rfl rfl 3 (by decide) (hts _ (gw_t _ hw223)) (fun _ h9 => h9) rfl dC_used_2 ?_
  refine va_get (D := D) (cl := rcl) (ci := 4) (v := .int (nI cc)) (C := NR) (T := TR) (N := 14) hx hb hts (fun w h => gw_t w (uwR w h)) hown hK hP 1 rfl rfl 5 (by decide) (hts _ (gw_t _ hw175)) (fun _ h9 => h9) rfl dC_used_5 ?_
  refine vp_callSi (W.runS (As := [.int b, .int (nI cc)]) (rest := []) ⟨hx, hb, hml, hown, hts⟩ (cC_isIndex l b (nI cc)) ⟨cB 2 hts hw269 hw1 hw267 (by decide +kernel) ⟨Nat.le_of_ble_eq_true rfl, Nat.le_of_ble_eq_true rfl⟩ rfl rfl, hts _ (gw_t _ hw268)⟩ ⟨fun a U g mk q => ⟨q.1, trivial⟩, fun U hU hW => ⟨rfl, trivial⟩⟩ rfl rfl hl.1 rfl (lv_room (Nat.le_of_ble_eq_true rfl)) dC_used_8 ⟨Nat.le_of_ble_eq_true rfl, Nat.le_of_ble_eq_true rfl⟩) (fun r8 hr8 => ?_)
  refine lv_if_eq (tgt := 26) hx hb dC_used_11 (by decide) (fun c11 => ?_) (fun c11 => ?_)
  · refine lv_lconst (v := 0) hx hb dC_used_26 (by decide) ?_
    exact W.lret (v := 0) hx hb hr (fun t ht9 hW9 => ⟨_, rfl, rfl, ht9⟩) t_nil dC_used_27
  · exact ix_0 hr8 c11 h9

set_option maxHeartbeats 4000000 in
set_option maxRecDepth 100000 in
theorem cC_share_0 (l : Launch) (D : va_G) (kI kJ kZ kG kH : ClassId) (h0 : Nat) (u : Nat) (x : Nat) (y : Nat) (f : Nat) (g : Nat) (wr : Int32) (f0 : Nat) (f1 : Nat) (f2 : Nat) (f3 : Nat) (f4 : Nat) (f5 : Nat) (f6 : Nat) (f7 : Nat) (bn : Nat) (ld : Int64) (vh : Int32) (lc : Nat) (cc : Nat) (cs : Nat → Int32) (kg : Nat → Int64) (re : Nat → Int32) (ro : Nat → Int32) (ba : Nat → Int32) (co : Nat → Int64) (od : Nat → Int32) (rw : Nat → Int32) (b : Int32) (pt : Int32) (h9 : cc = 0) : Met l yC_share wC_share (rmL 1 0 0) (va_Pc [.ref h0, .int b, .int pt] (fun U => wd D kI kJ kZ kG kH [(h0, .inr (5, [.ref u, .ref x, .ref y, .ref f, .ref g, .int wr])), (f, .inr (4, [.ref u, .int (nI bn), .long ld, .int vh, .int (nI lc), .int (nI cc), .ref f0, .ref f1, .ref f2, .ref f3, .ref f4, .ref f5, .ref f6, .ref f7])), (f0, .inl (kI, 63, .inl cs)), (f1, .inl (kJ, 64, .inr (.inl kg))), (f2, .inl (kI, 64, .inl re)), (f3, .inl (kI, 64, .inl ro)), (f4, .inl (kZ, 64, .inl ba)), (f5, .inl (kJ, 64, .inr (.inl co))), (f6, .inl (kI, 384, .inl od)), (f7, .inl (kI, 6, .inl rw))] U)) (vp_Sl (fun r : Int64 => r = 0)) 0 0 (fun _ => False) := by
  refine Met.ofW (cc := bC_share) (maxL := 3) (ret := (some .long)) (by decide) rfl ?_
  intro p e s m args below meth c s₁ B hml hv
  obtain ⟨rfl, hP, hK, hN⟩ := hv
  have hx := B.exec
  have hb := B.bytes
  have hr := B.returns
  have hts := atoms_spec (ws := wC_share) B.pre
  have hown : s.vm.findClass NC = some m.cls := findClass_of_methodNamed B.named
  have hlocks := B.notSynchronized
  have hl := lv_entry ([.ref h0, .int b, .int pt]) (n := 3) (Nat.le_of_ble_eq_true rfl)
  rw [lg_entry_eq]
  generalize (lg_sl ([.ref h0, .int b, .int pt]) ++ List.replicate (3 - (lg_sl ([.ref h0, .int b, .int pt])).length) Slot.unset).toArray = ls at hl ⊢
  have hl : lv_has ls 3 [(0, .ref h0), (1, .int b), (2, .int pt)] := hl
  refine lv_iload_n hx hb dC_share_0 rfl (lv_at hl 1 rfl) ?_
  refine lv_aload_n hx hb dC_share_1 rfl (lv_at hl 0 rfl) ?_
  refine va_get (D := D) (cl := rcl) (ci := 5) (v := .ref f) (C := NC) (T := TC) (N := 6) hx hb hts (fun w h => gw_t w (uwC w h)) hown hK hP 0 rfl rfl 3 (by decide) (hts _ (gw_t _ hw223)) (fun _ h9 => h9) rfl dC_share_2 ?_
  refine va_get (D := D) (cl := rcl) (ci := 4) (v := .int (nI cc)) (C := NR) (T := TR) (N := 14) hx hb hts (fun w h => gw_t w (uwR w h)) hown hK hP 1 rfl rfl 5 (by decide) (hts _ (gw_t _ hw175)) (fun _ h9 => h9) rfl dC_share_5 ?_
  refine vp_callSi (W.runS (As := [.int b, .int (nI cc)]) (rest := []) ⟨hx, hb, hml, hown, hts⟩ (cC_isIndex l b (nI cc)) ⟨cB 2 hts hw269 hw1 hw267 (by decide +kernel) ⟨Nat.le_of_ble_eq_true rfl, Nat.le_of_ble_eq_true rfl⟩ rfl rfl, hts _ (gw_t _ hw268)⟩ ⟨fun a U g mk q => ⟨q.1, trivial⟩, fun U hU hW => ⟨rfl, trivial⟩⟩ rfl rfl hl.1 rfl (lv_room (Nat.le_of_ble_eq_true rfl)) dC_share_8 ⟨Nat.le_of_ble_eq_true rfl, Nat.le_of_ble_eq_true rfl⟩) (fun r8 hr8 => ?_)
  refine lv_if_ne (tgt := 16) hx hb dC_share_11 (by decide) (fun c11 => ?_) (fun c11 => ?_)
  · exact ix_0 hr8 c11 h9
  · refine lv_lconst (v := 0) hx hb dC_share_14 (by decide) ?_
    exact W.lret (v := 0) hx hb hr (fun t ht9 hW9 => ⟨_, rfl, rfl, ht9⟩) t_nil dC_share_15

set_option maxHeartbeats 4000000 in
set_option maxRecDepth 100000 in
theorem cC_dropped_0 (l : Launch) (D : va_G) (kI kJ kZ kG kH : ClassId) (h0 : Nat) (u : Nat) (x : Nat) (y : Nat) (f : Nat) (g : Nat) (wr : Int32) (f0 : Nat) (f1 : Nat) (f2 : Nat) (f3 : Nat) (f4 : Nat) (f5 : Nat) (f6 : Nat) (f7 : Nat) (bn : Nat) (ld : Int64) (vh : Int32) (lc : Nat) (cc : Nat) (cs : Nat → Int32) (kg : Nat → Int64) (re : Nat → Int32) (ro : Nat → Int32) (ba : Nat → Int32) (co : Nat → Int64) (od : Nat → Int32) (rw : Nat → Int32) (b : Int32) (h9 : lc = 0) : Met l yC_dropped wC_dropped (rmL 1 0 0) (va_Pc [.ref h0, .int b] (fun U => wd D kI kJ kZ kG kH [(h0, .inr (5, [.ref u, .ref x, .ref y, .ref f, .ref g, .int wr])), (f, .inr (4, [.ref u, .int (nI bn), .long ld, .int vh, .int (nI lc), .int (nI cc), .ref f0, .ref f1, .ref f2, .ref f3, .ref f4, .ref f5, .ref f6, .ref f7])), (f0, .inl (kI, 63, .inl cs)), (f1, .inl (kJ, 64, .inr (.inl kg))), (f2, .inl (kI, 64, .inl re)), (f3, .inl (kI, 64, .inl ro)), (f4, .inl (kZ, 64, .inl ba)), (f5, .inl (kJ, 64, .inr (.inl co))), (f6, .inl (kI, 384, .inl od)), (f7, .inl (kI, 6, .inl rw))] U)) (vp_Si (fun r : Int32 => r = 0)) 0 0 (fun _ => False) := by
  refine Met.ofW (cc := bC_dropped) (maxL := 2) (ret := (some .boolean)) (by decide) rfl ?_
  intro p e s m args below meth c s₁ B hml hv
  obtain ⟨rfl, hP, hK, hN⟩ := hv
  have hx := B.exec
  have hb := B.bytes
  have hr := B.returns
  have hts := atoms_spec (ws := wC_dropped) B.pre
  have hown : s.vm.findClass NC = some m.cls := findClass_of_methodNamed B.named
  have hlocks := B.notSynchronized
  have hl := lv_entry ([.ref h0, .int b]) (n := 2) (Nat.le_of_ble_eq_true rfl)
  rw [lg_entry_eq]
  generalize (lg_sl ([.ref h0, .int b]) ++ List.replicate (2 - (lg_sl ([.ref h0, .int b])).length) Slot.unset).toArray = ls at hl ⊢
  have hl : lv_has ls 2 [(0, .ref h0), (1, .int b)] := hl
  refine lv_iload_n hx hb dC_dropped_0 rfl (lv_at hl 1 rfl) ?_
  refine lv_aload_n hx hb dC_dropped_1 rfl (lv_at hl 0 rfl) ?_
  refine va_get (D := D) (cl := rcl) (ci := 5) (v := .ref f) (C := NC) (T := TC) (N := 6) hx hb hts (fun w h => gw_t w (uwC w h)) hown hK hP 0 rfl rfl 3 (by decide) (hts _ (gw_t _ hw223)) (fun _ h9 => h9) rfl dC_dropped_2 ?_
  refine va_get (D := D) (cl := rcl) (ci := 4) (v := .int (nI lc)) (C := NR) (T := TR) (N := 14) hx hb hts (fun w h => gw_t w (uwR w h)) hown hK hP 1 rfl rfl 4 (by decide) (hts _ (gw_t _ hw171)) (fun _ h9 => h9) rfl dC_dropped_5 ?_
  refine vp_callSi (W.runS (As := [.int b, .int (nI lc)]) (rest := []) ⟨hx, hb, hml, hown, hts⟩ (cC_isIndex l b (nI lc)) ⟨cB 2 hts hw269 hw1 hw267 (by decide +kernel) ⟨Nat.le_of_ble_eq_true rfl, Nat.le_of_ble_eq_true rfl⟩ rfl rfl, hts _ (gw_t _ hw268)⟩ ⟨fun a U g mk q => ⟨q.1, trivial⟩, fun U hU hW => ⟨rfl, trivial⟩⟩ rfl rfl hl.1 rfl (lv_room (Nat.le_of_ble_eq_true rfl)) dC_dropped_8 ⟨Nat.le_of_ble_eq_true rfl, Nat.le_of_ble_eq_true rfl⟩) (fun r8 hr8 => ?_)
  refine lv_if_eq (tgt := 29) hx hb dC_dropped_11 (by decide) (fun c11 => ?_) (fun c11 => ?_)
  · refine lv_iconst (v := 0) hx hb dC_dropped_29 (by decide) ?_
    exact W.zret (v := 0) (ty := .boolean) hx hb hr (by decide) (fun t ht9 hW9 => ⟨_, rfl, rfl, ht9⟩) t_nil dC_dropped_30
  · exact ix_0 hr8 c11 h9

set_option maxHeartbeats 4000000 in
set_option maxRecDepth 100000 in
theorem cC_check_0 (l : Launch) (D : va_G) (kI kJ kZ kG kH : ClassId) (h0 : Nat) (u : Nat) (x : Nat) (y : Nat) (f : Nat) (g : Nat) (wr : Int32) (f0 : Nat) (f1 : Nat) (f2 : Nat) (f3 : Nat) (f4 : Nat) (f5 : Nat) (f6 : Nat) (f7 : Nat) (bn : Nat) (ld : Int64) (vh : Int32) (lc : Nat) (cc : Nat) (cs : Nat → Int32) (kg : Nat → Int64) (re : Nat → Int32) (ro : Nat → Int32) (ba : Nat → Int32) (co : Nat → Int64) (od : Nat → Int32) (rw : Nat → Int32) (h9 : cc = 0) : Met l yC_check wC_check (rmL 1 0 0) (va_Pc [.ref h0] (fun U => wd D kI kJ kZ kG kH [(h0, .inr (5, [.ref u, .ref x, .ref y, .ref f, .ref g, .int wr])), (f, .inr (4, [.ref u, .int (nI bn), .long ld, .int vh, .int (nI lc), .int (nI cc), .ref f0, .ref f1, .ref f2, .ref f3, .ref f4, .ref f5, .ref f6, .ref f7])), (f0, .inl (kI, 63, .inl cs)), (f1, .inl (kJ, 64, .inr (.inl kg))), (f2, .inl (kI, 64, .inl re)), (f3, .inl (kI, 64, .inl ro)), (f4, .inl (kZ, 64, .inl ba)), (f5, .inl (kJ, 64, .inr (.inl co))), (f6, .inl (kI, 384, .inl od)), (f7, .inl (kI, 6, .inl rw))] U)) (vp_Si (fun r : Int32 => r = 0)) 0 0 (fun _ => False) := by
  refine Met.ofW (cc := bC_check) (maxL := 4) (ret := (some .int)) (by decide) rfl ?_
  intro p e s m args below meth c s₁ B hml hv
  obtain ⟨rfl, hP, hK, hN⟩ := hv
  have hx := B.exec
  have hb := B.bytes
  have hr := B.returns
  have hts := atoms_spec (ws := wC_check) B.pre
  have hown : s.vm.findClass NC = some m.cls := findClass_of_methodNamed B.named
  have hlocks := B.notSynchronized
  have hl := lv_entry ([.ref h0]) (n := 4) (Nat.le_of_ble_eq_true rfl)
  rw [lg_entry_eq]
  generalize (lg_sl ([.ref h0]) ++ List.replicate (4 - (lg_sl ([.ref h0])).length) Slot.unset).toArray = ls at hl ⊢
  have hl : lv_has ls 4 [(0, .ref h0)] := hl
  refine lv_iconst (v := 0) hx hb dC_check_0 (by decide) ?_
  refine lv_istore_n (lv' := [(1, .int 0), (0, .ref h0)]) hx hb dC_check_1 rfl hl (by decide) rfl (fun ls hl => ?_)
  refine lv_iload_n hx hb dC_check_2 rfl (lv_at hl 0 rfl) ?_
  refine lv_aload_n hx hb dC_check_3 rfl (lv_at hl 1 rfl) ?_
  refine va_get (D := D) (cl := rcl) (ci := 5) (v := .ref f) (C := NC) (T := TC) (N := 6) hx hb hts (fun w h => gw_t w (uwC w h)) hown hK hP 0 rfl rfl 3 (by decide) (hts _ (gw_t _ hw223)) (fun _ h9 => h9) rfl dC_check_4 ?_
  refine va_get (D := D) (cl := rcl) (ci := 4) (v := .int (nI cc)) (C := NR) (T := TR) (N := 14) hx hb hts (fun w h => gw_t w (uwR w h)) hown hK hP 1 rfl rfl 5 (by decide) (hts _ (gw_t _ hw175)) (fun _ h9 => h9) rfl dC_check_7 ?_
  refine lv_icmp_ge (tgt := 70) hx hb dC_check_10 (by decide) (fun c10 => ?_) (fun c10 => ?_)
  · refine lv_iconst (v := 0) hx hb dC_check_70 (by decide) ?_
    exact W.iret (v := 0) hx hb hr (fun t ht9 hW9 => ⟨_, rfl, rfl, ht9⟩) t_nil dC_check_71
  · exact absurd (by rw [h9]; decide) c10

set_option maxHeartbeats 4000000 in
set_option maxRecDepth 100000 in
theorem cC_labelsClosed_0 (l : Launch) (D : va_G) (kI kJ kZ kG kH : ClassId) (h0 : Nat) (u : Nat) (x : Nat) (y : Nat) (f : Nat) (g : Nat) (wr : Int32) (f0 : Nat) (f1 : Nat) (f2 : Nat) (f3 : Nat) (f4 : Nat) (f5 : Nat) (f6 : Nat) (f7 : Nat) (bn : Nat) (ld : Int64) (vh : Int32) (lc : Nat) (cc : Nat) (cs : Nat → Int32) (kg : Nat → Int64) (re : Nat → Int32) (ro : Nat → Int32) (ba : Nat → Int32) (co : Nat → Int64) (od : Nat → Int32) (rw : Nat → Int32) (h9 : wr = 0) : Met l yC_labelsClosed wC_labelsClosed (rmL 1 0 0) (va_Pc [.ref h0] (fun U => wd D kI kJ kZ kG kH [(h0, .inr (5, [.ref u, .ref x, .ref y, .ref f, .ref g, .int wr])), (f, .inr (4, [.ref u, .int (nI bn), .long ld, .int vh, .int (nI lc), .int (nI cc), .ref f0, .ref f1, .ref f2, .ref f3, .ref f4, .ref f5, .ref f6, .ref f7])), (f0, .inl (kI, 63, .inl cs)), (f1, .inl (kJ, 64, .inr (.inl kg))), (f2, .inl (kI, 64, .inl re)), (f3, .inl (kI, 64, .inl ro)), (f4, .inl (kZ, 64, .inl ba)), (f5, .inl (kJ, 64, .inr (.inl co))), (f6, .inl (kI, 384, .inl od)), (f7, .inl (kI, 6, .inl rw))] U)) (vp_Si (fun r : Int32 => r = 0)) 0 0 (fun _ => False) := by
  refine Met.ofW (cc := bC_labelsClosed) (maxL := 1) (ret := (some .boolean)) (by decide) rfl ?_
  intro p e s m args below meth c s₁ B hml hv
  obtain ⟨rfl, hP, hK, hN⟩ := hv
  have hx := B.exec
  have hb := B.bytes
  have hr := B.returns
  have hts := atoms_spec (ws := wC_labelsClosed) B.pre
  have hown : s.vm.findClass NC = some m.cls := findClass_of_methodNamed B.named
  have hlocks := B.notSynchronized
  have hl := lv_entry ([.ref h0]) (n := 1) (Nat.le_of_ble_eq_true rfl)
  rw [lg_entry_eq]
  generalize (lg_sl ([.ref h0]) ++ List.replicate (1 - (lg_sl ([.ref h0])).length) Slot.unset).toArray = ls at hl ⊢
  have hl : lv_has ls 1 [(0, .ref h0)] := hl
  refine lv_aload_n hx hb dC_labelsClosed_0 rfl (lv_at hl 0 rfl) ?_
  refine va_get (D := D) (cl := rcl) (ci := 5) (v := .int wr) (C := NC) (T := TC) (N := 6) hx hb hts (fun w h => gw_t w (uwC w h)) hown hK hP 0 rfl rfl 5 (by decide) (hts _ (gw_t _ hw225)) (fun _ h9 => h9) rfl dC_labelsClosed_1 ?_
  refine lv_if_eq (tgt := 21) hx hb dC_labelsClosed_4 (by decide) (fun c4 => ?_) (fun c4 => ?_)
  · refine lv_iconst (v := 0) hx hb dC_labelsClosed_21 (by decide) ?_
    exact W.zret (v := 0) (ty := .boolean) hx hb hr (by decide) (fun t ht9 hW9 => ⟨_, rfl, rfl, ht9⟩) t_nil dC_labelsClosed_22
  · exact absurd h9 c4

set_option maxHeartbeats 4000000 in
set_option maxRecDepth 100000 in
theorem cC_way (l : Launch) (D : va_G) (kI kJ kZ kG kH : ClassId) (h0 : Nat) (u : Nat) (x : Nat) (y : Nat) (f : Nat) (g : Nat) (wr : Int32) (u0 : Nat) (u1 : Nat) (u2 : Nat) (u3 : Nat) (u4 : Nat) (u5 : Nat) (ur : Nat → Nat) (us : Nat → Nat) (bn : Nat) (ld : Int64) (sec : Int32) (vh : Int32) (kg : Nat → Int64) (bs : Nat → Int32) (S : Nat → Nat → Int32) (C : Nat → Nat → Int64) (tg : Nat → Int32) (ap : Nat → Int32) (a : Int32) (b : Int32) (se : Int32) (co : Int64) (hbn : bn ≤ 6) (sz : Nat) : Met l yC_way wC_way (rmL 1 0 0) (va_Pc [.ref h0, .int a, .int b, .int se, .long co] (fun U => U.heap.size = sz ∧ wd D kI kJ kZ kG kH (([(h0, .inr (5, [.ref u, .ref x, .ref y, .ref f, .ref g, .int wr])), (u, .inr (0, [.int (nI bn), .long ld, .int sec, .int vh, .ref u0, .ref u1, .ref u2, .ref u3, .ref u4, .ref u5])), (u0, .inl (kJ, 6, .inr (.inl kg))), (u1, .inl (kI, 6, .inl bs)), (u2, .inl (kG, 7, .inr (.inr (.inr (.inr (fun i => some (ur i))))))), (u3, .inl (kH, 7, .inr (.inr (.inr (.inr (fun i => some (us i))))))), (u4, .inl (kI, 6, .inl tg)), (u5, .inl (kI, 6, .inl ap))] : va_W) ++ (gI kI 7 7 ur S ++ (gJ kJ 7 7 us C ++ ([] : va_W)))) U ∧ va_D (fun _ => True) (([(h0, .inr (5, [.ref u, .ref x, .ref y, .ref f, .ref g, .int wr])), (u, .inr (0, [.int (nI bn), .long ld, .int sec, .int vh, .ref u0, .ref u1, .ref u2, .ref u3, .ref u4, .ref u5])), (u0, .inl (kJ, 6, .inr (.inl kg))), (u1, .inl (kI, 6, .inl bs)), (u2, .inl (kG, 7, .inr (.inr (.inr (.inr (fun i => some (ur i))))))), (u3, .inl (kH, 7, .inr (.inr (.inr (.inr (fun i => some (us i))))))), (u4, .inl (kI, 6, .inl tg)), (u5, .inl (kI, 6, .inl ap))] : va_W) ++ (gI kI 7 7 ur S ++ (gJ kJ 7 7 us C ++ ([] : va_W)))))) (va_Qi (fun (r : Int32) (v9 : (Nat → Nat → Int32) × (Nat → Nat → Int64)) => (okW bn a b se co → r = 1 ∧ v9 = (up2 S a.toNatClampNeg (upd (S a.toNatClampNeg) b.toNatClampNeg se), up2 C a.toNatClampNeg (vp_updL (C a.toNatClampNeg) b.toNatClampNeg co))) ∧ (¬ okW bn a b se co → r = 0 ∧ v9 = (S, C))) (fun v9 t => va_P D rcl (([(h0, .inr (5, [.ref u, .ref x, .ref y, .ref f, .ref g, .int wr])), (u, .inr (0, [.int (nI bn), .long ld, .int sec, .int vh, .ref u0, .ref u1, .ref u2, .ref u3, .ref u4, .ref u5])), (u0, .inl (kJ, 6, .inr (.inl kg))), (u1, .inl (kI, 6, .inl bs)), (u2, .inl (kG, 7, .inr (.inr (.inr (.inr (fun i => some (ur i))))))), (u3, .inl (kH, 7, .inr (.inr (.inr (.inr (fun i => some (us i))))))), (u4, .inl (kI, 6, .inl tg)), (u5, .inl (kI, 6, .inl ap))] : va_W) ++ (gI kI 7 7 ur v9.1 ++ (gJ kJ 7 7 us v9.2 ++ ([] : va_W)))) t.heap ∧ va_K D rcl (TY kI kJ kZ kG kH) t ∧ va_D (va_A (([(h0, .inr (5, [.ref u, .ref x, .ref y, .ref f, .ref g, .int wr])), (u, .inr (0, [.int (nI bn), .long ld, .int sec, .int vh, .ref u0, .ref u1, .ref u2, .ref u3, .ref u4, .ref u5])), (u0, .inl (kJ, 6, .inr (.inl kg))), (u1, .inl (kI, 6, .inl bs)), (u2, .inl (kG, 7, .inr (.inr (.inr (.inr (fun i => some (ur i))))))), (u3, .inl (kH, 7, .inr (.inr (.inr (.inr (fun i => some (us i))))))), (u4, .inl (kI, 6, .inl tg)), (u5, .inl (kI, 6, .inl ap))] : va_W) ++ (gI kI 7 7 ur S ++ (gJ kJ 7 7 us C ++ ([] : va_W)))) sz) (([(h0, .inr (5, [.ref u, .ref x, .ref y, .ref f, .ref g, .int wr])), (u, .inr (0, [.int (nI bn), .long ld, .int sec, .int vh, .ref u0, .ref u1, .ref u2, .ref u3, .ref u4, .ref u5])), (u0, .inl (kJ, 6, .inr (.inl kg))), (u1, .inl (kI, 6, .inl bs)), (u2, .inl (kG, 7, .inr (.inr (.inr (.inr (fun i => some (ur i))))))), (u3, .inl (kH, 7, .inr (.inr (.inr (.inr (fun i => some (us i))))))), (u4, .inl (kI, 6, .inl tg)), (u5, .inl (kI, 6, .inl ap))] : va_W) ++ (gI kI 7 7 ur v9.1 ++ (gJ kJ 7 7 us v9.2 ++ ([] : va_W))))) (va_A (([(h0, .inr (5, [.ref u, .ref x, .ref y, .ref f, .ref g, .int wr])), (u, .inr (0, [.int (nI bn), .long ld, .int sec, .int vh, .ref u0, .ref u1, .ref u2, .ref u3, .ref u4, .ref u5])), (u0, .inl (kJ, 6, .inr (.inl kg))), (u1, .inl (kI, 6, .inl bs)), (u2, .inl (kG, 7, .inr (.inr (.inr (.inr (fun i => some (ur i))))))), (u3, .inl (kH, 7, .inr (.inr (.inr (.inr (fun i => some (us i))))))), (u4, .inl (kI, 6, .inl tg)), (u5, .inl (kI, 6, .inl ap))] : va_W) ++ (gI kI 7 7 ur S ++ (gJ kJ 7 7 us C ++ ([] : va_W)))) sz)) 0 0 (va_A (([(h0, .inr (5, [.ref u, .ref x, .ref y, .ref f, .ref g, .int wr])), (u, .inr (0, [.int (nI bn), .long ld, .int sec, .int vh, .ref u0, .ref u1, .ref u2, .ref u3, .ref u4, .ref u5])), (u0, .inl (kJ, 6, .inr (.inl kg))), (u1, .inl (kI, 6, .inl bs)), (u2, .inl (kG, 7, .inr (.inr (.inr (.inr (fun i => some (ur i))))))), (u3, .inl (kH, 7, .inr (.inr (.inr (.inr (fun i => some (us i))))))), (u4, .inl (kI, 6, .inl tg)), (u5, .inl (kI, 6, .inl ap))] : va_W) ++ (gI kI 7 7 ur S ++ (gJ kJ 7 7 us C ++ ([] : va_W)))) sz) := by
  refine Met.ofW (cc := bC_way) (maxL := 6) (ret := (some .boolean)) (by decide) rfl ?_
  intro p e s m args below meth c s₁ B hml hv
  obtain ⟨rfl, hsz, ⟨hP, hK, hN⟩, hD0⟩ := hv
  have hx := B.exec
  have hb := B.bytes
  have hr := B.returns
  have hts := atoms_spec (ws := wC_way) B.pre
  have hown : s.vm.findClass NC = some m.cls := findClass_of_methodNamed B.named
  have hlocks := B.notSynchronized
  subst hsz
  have hD := hD0.self (sz := s.heap.size)
  generalize hAe : va_A (([(h0, .inr (5, [.ref u, .ref x, .ref y, .ref f, .ref g, .int wr])), (u, .inr (0, [.int (nI bn), .long ld, .int sec, .int vh, .ref u0, .ref u1, .ref u2, .ref u3, .ref u4, .ref u5])), (u0, .inl (kJ, 6, .inr (.inl kg))), (u1, .inl (kI, 6, .inl bs)), (u2, .inl (kG, 7, .inr (.inr (.inr (.inr (fun i => some (ur i))))))), (u3, .inl (kH, 7, .inr (.inr (.inr (.inr (fun i => some (us i))))))), (u4, .inl (kI, 6, .inl tg)), (u5, .inl (kI, 6, .inl ap))] : va_W) ++ (gI kI 7 7 ur S ++ (gJ kJ 7 7 us C ++ ([] : va_W)))) s.heap.size = A at hD ⊢
  have hA : ∀ q : Nat, s.heap.size ≤ q → A q := fun q h => by rw [← hAe]; exact Or.inr h
  have hS : va_S A s.heap s.heap [] := va_S.rf
  have hP : va_P D rcl (([(h0, .inr (5, [.ref u, .ref x, .ref y, .ref f, .ref g, .int wr])), (u, .inr (0, [.int (nI bn), .long ld, .int sec, .int vh, .ref u0, .ref u1, .ref u2, .ref u3, .ref u4, .ref u5])), (u0, .inl (kJ, 6, .inr (.inl kg))), (u1, .inl (kI, 6, .inl bs)), (u2, .inl (kG, 7, .inr (.inr (.inr (.inr (fun i => some (ur i))))))), (u3, .inl (kH, 7, .inr (.inr (.inr (.inr (fun i => some (us i))))))), (u4, .inl (kI, 6, .inl tg)), (u5, .inl (kI, 6, .inl ap))] : va_W) ++ (gI kI 7 7 ur S ++ (gJ kJ 7 7 us C ++ ([] : va_W)))) s.heap := hP
  have hl := lv_entry ([.ref h0, .int a, .int b, .int se, .long co]) (n := 6) (Nat.le_of_ble_eq_true rfl)
  rw [lg_entry_eq]
  generalize (lg_sl ([.ref h0, .int a, .int b, .int se, .long co]) ++ List.replicate (6 - (lg_sl ([.ref h0, .int a, .int b, .int se, .long co])).length) Slot.unset).toArray = ls at hl ⊢
  have hl : lv_has ls 6 [(0, .ref h0), (1, .int a), (2, .int b), (3, .int se), (4, .long co)] := hl
  refine lv_iload_n hx hb dC_way_0 rfl (lv_at hl 1 rfl) ?_
  refine lv_i2l (v := a.toInt64) hx hb dC_way_1 rfl ?_
  refine lv_aload_n hx hb dC_way_2 rfl (lv_at hl 0 rfl) ?_
  refine va_get (D := D) (cl := rcl) (ci := 5) (v := .ref u) (C := NC) (T := TC) (N := 6) hx hb hts (fun w h => gw_t w (uwC w h)) hown hK hP 0 rfl rfl 0 (by decide) (hts _ (gw_t _ hw220)) (fun _ h9 => h9) rfl dC_way_3 ?_
  refine va_get (D := D) (cl := rcl) (ci := 0) (v := .int (nI bn)) (C := NW) (T := TW) (N := 10) hx hb hts (fun w h => gw_t w (uwW w h)) hown hK hP 1 rfl rfl 0 (by decide) (hts _ (gw_t _ hw38)) (fun _ h9 => h9) rfl dC_way_6 ?_
  refine lv_i2l (v := (nI bn).toInt64) hx hb dC_way_9 rfl ?_
  refine vp_callSi (W.runS (As := [.long a.toInt64, .long ((nI bn).toInt64)]) (rest := []) ⟨hx, hb, hml, hown, hts⟩ (cC_isWithin l a.toInt64 ((nI bn).toInt64)) ⟨cB 2 hts hw246 hw1 hw244 (by decide +kernel) ⟨Nat.le_of_ble_eq_true rfl, Nat.le_of_ble_eq_true rfl⟩ rfl rfl, hts _ (gw_t _ hw245)⟩ ⟨fun a U g mk q => ⟨q.1, trivial⟩, fun U hU hW => ⟨rfl, trivial⟩⟩ rfl rfl hl.1 rfl (lv_room (Nat.le_of_ble_eq_true rfl)) dC_way_10 ⟨Nat.le_of_ble_eq_true rfl, Nat.le_of_ble_eq_true rfl⟩) (fun ra hra => ?_)
  refine lv_if_eq (tgt := 59) hx hb dC_way_13 (by decide) (fun c13 => ?_) (fun c13 => ?_)
  · have w13 := w_f hra c13
    refine lv_iconst (v := 0) hx hb dC_way_59 (by decide) ?_
    refine W.widen (k := 0) (n := 0) (by omega) (by omega) ?_
    exact W.zret (v := 0) (ty := .boolean) hx hb hr (by decide) (fun t ht9 hW9 => ⟨⟨_, (S, C), rfl, ⟨fun h => absurd h (fun h => w13 h.1), fun _ => ⟨rfl, rfl⟩⟩, by rw [ht9]; exact hP, va_K.moved hW9.alike hK, hD⟩, hS.F ht9⟩) hS.2.2 dC_way_60
  · have w13 := w_t hra c13
    refine lv_iload_n hx hb dC_way_16 rfl (lv_at hl 2 rfl) ?_
    refine lv_i2l (v := b.toInt64) hx hb dC_way_17 rfl ?_
    refine lv_aload_n hx hb dC_way_18 rfl (lv_at hl 0 rfl) ?_
    refine va_get (D := D) (cl := rcl) (ci := 5) (v := .ref u) (C := NC) (T := TC) (N := 6) hx hb hts (fun w h => gw_t w (uwC w h)) hown hK hP 0 rfl rfl 0 (by decide) (hts _ (gw_t _ hw220)) (fun _ h9 => h9) rfl dC_way_19 ?_
    refine va_get (D := D) (cl := rcl) (ci := 0) (v := .int (nI bn)) (C := NW) (T := TW) (N := 10) hx hb hts (fun w h => gw_t w (uwW w h)) hown hK hP 1 rfl rfl 0 (by decide) (hts _ (gw_t _ hw38)) (fun _ h9 => h9) rfl dC_way_22 ?_
    refine lv_i2l (v := (nI bn).toInt64) hx hb dC_way_25 rfl ?_
    refine vp_callSi (W.runS (As := [.long b.toInt64, .long ((nI bn).toInt64)]) (rest := []) ⟨hx, hb, hml, hown, hts⟩ (cC_isWithin l b.toInt64 ((nI bn).toInt64)) ⟨cB 2 hts hw246 hw1 hw244 (by decide +kernel) ⟨Nat.le_of_ble_eq_true rfl, Nat.le_of_ble_eq_true rfl⟩ rfl rfl, hts _ (gw_t _ hw245)⟩ ⟨fun a U g mk q => ⟨q.1, trivial⟩, fun U hU hW => ⟨rfl, trivial⟩⟩ rfl rfl hl.1 rfl (lv_room (Nat.le_of_ble_eq_true rfl)) dC_way_26 ⟨Nat.le_of_ble_eq_true rfl, Nat.le_of_ble_eq_true rfl⟩) (fun rb hrb => ?_)
    refine lv_if_eq (tgt := 59) hx hb dC_way_29 (by decide) (fun c29 => ?_) (fun c29 => ?_)
    · have w29 := w_f hrb c29
      refine lv_iconst (v := 0) hx hb dC_way_59 (by decide) ?_
      refine W.widen (k := 0) (n := 0) (by omega) (by omega) ?_
      exact W.zret (v := 0) (ty := .boolean) hx hb hr (by decide) (fun t ht9 hW9 => ⟨⟨_, (S, C), rfl, ⟨fun h => absurd h (fun h => w29 h.2.1), fun _ => ⟨rfl, rfl⟩⟩, by rw [ht9]; exact hP, va_K.moved hW9.alike hK, hD⟩, hS.F ht9⟩) hS.2.2 dC_way_60
    · have w29 := w_t hrb c29
      refine lv_iload_n hx hb dC_way_32 rfl (lv_at hl 1 rfl) ?_
      refine lv_iload_n hx hb dC_way_33 rfl (lv_at hl 2 rfl) ?_
      refine lv_icmp_eq (tgt := 59) hx hb dC_way_34 (by decide) (fun c34 => ?_) (fun c34 => ?_)
      · refine lv_iconst (v := 0) hx hb dC_way_59 (by decide) ?_
        refine W.widen (k := 0) (n := 0) (by omega) (by omega) ?_
        exact W.zret (v := 0) (ty := .boolean) hx hb hr (by decide) (fun t ht9 hW9 => ⟨⟨_, (S, C), rfl, ⟨fun h => absurd h (fun h => h.2.2.1 c34), fun _ => ⟨rfl, rfl⟩⟩, by rw [ht9]; exact hP, va_K.moved hW9.alike hK, hD⟩, hS.F ht9⟩) hS.2.2 dC_way_60
      · refine lv_iload_n hx hb dC_way_37 rfl (lv_at hl 3 rfl) ?_
        refine lv_i2l (v := se.toInt64) hx hb dC_way_38 rfl ?_
        refine lv_ldc2 (v := 1000) (own := NC) hx hb hown (hts _ (gw_t _ hw243)) dC_way_39 ?_
        refine vp_callSi (W.runS (As := [.long se.toInt64, .long 1000]) (rest := []) ⟨hx, hb, hml, hown, hts⟩ (cC_isWithin l se.toInt64 1000) ⟨cB 2 hts hw246 hw1 hw244 (by decide +kernel) ⟨Nat.le_of_ble_eq_true rfl, Nat.le_of_ble_eq_true rfl⟩ rfl rfl, hts _ (gw_t _ hw245)⟩ ⟨fun a U g mk q => ⟨q.1, trivial⟩, fun U hU hW => ⟨rfl, trivial⟩⟩ rfl rfl hl.1 rfl (lv_room (Nat.le_of_ble_eq_true rfl)) dC_way_42 ⟨Nat.le_of_ble_eq_true rfl, Nat.le_of_ble_eq_true rfl⟩) (fun rs hrs => ?_)
        refine lv_if_eq (tgt := 59) hx hb dC_way_45 (by decide) (fun c45 => ?_) (fun c45 => ?_)
        · have w45 := w_f hrs c45
          refine lv_iconst (v := 0) hx hb dC_way_59 (by decide) ?_
          refine W.widen (k := 0) (n := 0) (by omega) (by omega) ?_
          exact W.zret (v := 0) (ty := .boolean) hx hb hr (by decide) (fun t ht9 hW9 => ⟨⟨_, (S, C), rfl, ⟨fun h => absurd h (fun h => w45 h.2.2.2.1), fun _ => ⟨rfl, rfl⟩⟩, by rw [ht9]; exact hP, va_K.moved hW9.alike hK, hD⟩, hS.F ht9⟩) hS.2.2 dC_way_60
        · have w45 := w_t hrs c45
          refine lv_lload hx hb dC_way_48 (lv_at hl 4 rfl) ?_
          refine lv_ldc2 (v := 2000) (own := NC) hx hb hown (hts _ (gw_t _ hw255)) dC_way_50 ?_
          refine vp_callSi (W.runS (As := [.long co, .long 2000]) (rest := []) ⟨hx, hb, hml, hown, hts⟩ (cC_isWithin l co 2000) ⟨cB 2 hts hw246 hw1 hw244 (by decide +kernel) ⟨Nat.le_of_ble_eq_true rfl, Nat.le_of_ble_eq_true rfl⟩ rfl rfl, hts _ (gw_t _ hw245)⟩ ⟨fun a U g mk q => ⟨q.1, trivial⟩, fun U hU hW => ⟨rfl, trivial⟩⟩ rfl rfl hl.1 rfl (lv_room (Nat.le_of_ble_eq_true rfl)) dC_way_53 ⟨Nat.le_of_ble_eq_true rfl, Nat.le_of_ble_eq_true rfl⟩) (fun rc hrc => ?_)
          refine lv_if_ne (tgt := 61) hx hb dC_way_56 (by decide) (fun c56 => ?_) (fun c56 => ?_)
          · have w56 := w_t hrc c56
            obtain ⟨a9, ha9, rfl⟩ := ix_le w13 (by omega)
            obtain ⟨b9, hb9, rfl⟩ := ix_le w29 (by omega)
            refine lv_aload_n hx hb dC_way_61 rfl (lv_at hl 0 rfl) ?_
            refine va_get (D := D) (cl := rcl) (ci := 5) (v := .ref u) (C := NC) (T := TC) (N := 6) hx hb hts (fun w h => gw_t w (uwC w h)) hown hK hP 0 rfl rfl 0 (by decide) (hts _ (gw_t _ hw220)) (fun _ h9 => h9) rfl dC_way_62 ?_
            refine va_get (D := D) (cl := rcl) (ci := 0) (v := .ref u2) (C := NW) (T := TW) (N := 10) hx hb hts (fun w h => gw_t w (uwW w h)) hown hK hP 1 rfl rfl 6 (by decide) (hts _ (gw_t _ hw53)) (fun _ h9 => h9) rfl dC_way_65 ?_
            refine lv_iload_n hx hb dC_way_68 rfl (lv_at hl 1 rfl) ?_
            refine ra_a (k := a9) (q := ur a9) hx hb hK hP 4 3 rfl rfl (by omega) (by omega) (rfl) dC_way_69 ?_
            refine lv_iload_n hx hb dC_way_70 rfl (lv_at hl 2 rfl) ?_
            refine lv_iload_n hx hb dC_way_71 rfl (lv_at hl 3 rfl) ?_
            refine wa_i (k := b9) hx hb hK hP hD hS (8 + a9) 0 (gr_get (X := ([(h0, .inr (5, [.ref u, .ref x, .ref y, .ref f, .ref g, .int wr])), (u, .inr (0, [.int (nI bn), .long ld, .int sec, .int vh, .ref u0, .ref u1, .ref u2, .ref u3, .ref u4, .ref u5])), (u0, .inl (kJ, 6, .inr (.inl kg))), (u1, .inl (kI, 6, .inl bs)), (u2, .inl (kG, 7, .inr (.inr (.inr (.inr (fun i => some (ur i))))))), (u3, .inl (kH, 7, .inr (.inr (.inr (.inr (fun i => some (us i))))))), (u4, .inl (kI, 6, .inl tg)), (u5, .inl (kI, 6, .inl ap))] : va_W)) (by omega)) rfl (by omega) (by omega) dC_way_72 (fun H locs hP hD hS => ?_)
            have eg := gI_set (X := ([(h0, .inr (5, [.ref u, .ref x, .ref y, .ref f, .ref g, .int wr])), (u, .inr (0, [.int (nI bn), .long ld, .int sec, .int vh, .ref u0, .ref u1, .ref u2, .ref u3, .ref u4, .ref u5])), (u0, .inl (kJ, 6, .inr (.inl kg))), (u1, .inl (kI, 6, .inl bs)), (u2, .inl (kG, 7, .inr (.inr (.inr (.inr (fun i => some (ur i))))))), (u3, .inl (kH, 7, .inr (.inr (.inr (.inr (fun i => some (us i))))))), (u4, .inl (kI, 6, .inl tg)), (u5, .inl (kI, 6, .inl ap))] : va_W)) (Y := (gJ kJ 7 7 us C ++ ([] : va_W))) (k := kI) (n := 7) (w := 7) (r := ur) (M := S) (i := a9) (by omega) (upd (S a9) b9 se)
            have hP := (congrArg (fun z => va_P D rcl z H) eg).mp hP
            have hD := (congrArg (fun z => va_D A z) eg).mp hD
            have hP : va_P D rcl (([(h0, .inr (5, [.ref u, .ref x, .ref y, .ref f, .ref g, .int wr])), (u, .inr (0, [.int (nI bn), .long ld, .int sec, .int vh, .ref u0, .ref u1, .ref u2, .ref u3, .ref u4, .ref u5])), (u0, .inl (kJ, 6, .inr (.inl kg))), (u1, .inl (kI, 6, .inl bs)), (u2, .inl (kG, 7, .inr (.inr (.inr (.inr (fun i => some (ur i))))))), (u3, .inl (kH, 7, .inr (.inr (.inr (.inr (fun i => some (us i))))))), (u4, .inl (kI, 6, .inl tg)), (u5, .inl (kI, 6, .inl ap))] : va_W) ++ (gI kI 7 7 ur (up2 S a9 (upd (S a9) b9 se)) ++ (gJ kJ 7 7 us C ++ ([] : va_W)))) H := hP
            have hD : va_D A (([(h0, .inr (5, [.ref u, .ref x, .ref y, .ref f, .ref g, .int wr])), (u, .inr (0, [.int (nI bn), .long ld, .int sec, .int vh, .ref u0, .ref u1, .ref u2, .ref u3, .ref u4, .ref u5])), (u0, .inl (kJ, 6, .inr (.inl kg))), (u1, .inl (kI, 6, .inl bs)), (u2, .inl (kG, 7, .inr (.inr (.inr (.inr (fun i => some (ur i))))))), (u3, .inl (kH, 7, .inr (.inr (.inr (.inr (fun i => some (us i))))))), (u4, .inl (kI, 6, .inl tg)), (u5, .inl (kI, 6, .inl ap))] : va_W) ++ (gI kI 7 7 ur (up2 S a9 (upd (S a9) b9 se)) ++ (gJ kJ 7 7 us C ++ ([] : va_W)))) := hD
            refine lv_aload_n hx hb dC_way_73 rfl (lv_at hl 0 rfl) ?_
            refine va_get (D := D) (cl := rcl) (ci := 5) (v := .ref u) (C := NC) (T := TC) (N := 6) hx hb hts (fun w h => gw_t w (uwC w h)) hown hK hP 0 rfl rfl 0 (by decide) (hts _ (gw_t _ hw220)) (fun _ h9 => h9) rfl dC_way_74 ?_
            refine va_get (D := D) (cl := rcl) (ci := 0) (v := .ref u3) (C := NW) (T := TW) (N := 10) hx hb hts (fun w h => gw_t w (uwW w h)) hown hK hP 1 rfl rfl 7 (by decide) (hts _ (gw_t _ hw56)) (fun _ h9 => h9) rfl dC_way_77 ?_
            refine lv_iload_n hx hb dC_way_80 rfl (lv_at hl 1 rfl) ?_
            refine ra_a (k := a9) (q := us a9) hx hb hK hP 5 4 rfl rfl (by omega) (by omega) (rfl) dC_way_81 ?_
            refine lv_iload_n hx hb dC_way_82 rfl (lv_at hl 2 rfl) ?_
            refine lv_lload hx hb dC_way_83 (lv_at hl 4 rfl) ?_
            refine wa_l (k := b9) hx hb hK hP hD hS (8 + (7 + a9)) 1 (gr_get2 (X := ([(h0, .inr (5, [.ref u, .ref x, .ref y, .ref f, .ref g, .int wr])), (u, .inr (0, [.int (nI bn), .long ld, .int sec, .int vh, .ref u0, .ref u1, .ref u2, .ref u3, .ref u4, .ref u5])), (u0, .inl (kJ, 6, .inr (.inl kg))), (u1, .inl (kI, 6, .inl bs)), (u2, .inl (kG, 7, .inr (.inr (.inr (.inr (fun i => some (ur i))))))), (u3, .inl (kH, 7, .inr (.inr (.inr (.inr (fun i => some (us i))))))), (u4, .inl (kI, 6, .inl tg)), (u5, .inl (kI, 6, .inl ap))] : va_W)) (by omega)) rfl (by omega) (by omega) dC_way_85 (fun H locs hP hD hS => ?_)
            have eg := gJ_set2 (k0 := kI) (n0 := 7) (w0 := 7) (r0 := ur) (M0 := up2 S a9 (upd (S a9) b9 se)) (X := ([(h0, .inr (5, [.ref u, .ref x, .ref y, .ref f, .ref g, .int wr])), (u, .inr (0, [.int (nI bn), .long ld, .int sec, .int vh, .ref u0, .ref u1, .ref u2, .ref u3, .ref u4, .ref u5])), (u0, .inl (kJ, 6, .inr (.inl kg))), (u1, .inl (kI, 6, .inl bs)), (u2, .inl (kG, 7, .inr (.inr (.inr (.inr (fun i => some (ur i))))))), (u3, .inl (kH, 7, .inr (.inr (.inr (.inr (fun i => some (us i))))))), (u4, .inl (kI, 6, .inl tg)), (u5, .inl (kI, 6, .inl ap))] : va_W)) (Y := ([] : va_W)) (k := kJ) (n := 7) (w := 7) (r := us) (M := C) (i := a9) (by omega) (vp_updL (C a9) b9 co)
            have hP := (congrArg (fun z => va_P D rcl z H) eg).mp hP
            have hD := (congrArg (fun z => va_D A z) eg).mp hD
            have hP : va_P D rcl (([(h0, .inr (5, [.ref u, .ref x, .ref y, .ref f, .ref g, .int wr])), (u, .inr (0, [.int (nI bn), .long ld, .int sec, .int vh, .ref u0, .ref u1, .ref u2, .ref u3, .ref u4, .ref u5])), (u0, .inl (kJ, 6, .inr (.inl kg))), (u1, .inl (kI, 6, .inl bs)), (u2, .inl (kG, 7, .inr (.inr (.inr (.inr (fun i => some (ur i))))))), (u3, .inl (kH, 7, .inr (.inr (.inr (.inr (fun i => some (us i))))))), (u4, .inl (kI, 6, .inl tg)), (u5, .inl (kI, 6, .inl ap))] : va_W) ++ (gI kI 7 7 ur (up2 S a9 (upd (S a9) b9 se)) ++ (gJ kJ 7 7 us (up2 C a9 (vp_updL (C a9) b9 co)) ++ ([] : va_W)))) H := hP
            have hD : va_D A (([(h0, .inr (5, [.ref u, .ref x, .ref y, .ref f, .ref g, .int wr])), (u, .inr (0, [.int (nI bn), .long ld, .int sec, .int vh, .ref u0, .ref u1, .ref u2, .ref u3, .ref u4, .ref u5])), (u0, .inl (kJ, 6, .inr (.inl kg))), (u1, .inl (kI, 6, .inl bs)), (u2, .inl (kG, 7, .inr (.inr (.inr (.inr (fun i => some (ur i))))))), (u3, .inl (kH, 7, .inr (.inr (.inr (.inr (fun i => some (us i))))))), (u4, .inl (kI, 6, .inl tg)), (u5, .inl (kI, 6, .inl ap))] : va_W) ++ (gI kI 7 7 ur (up2 S a9 (upd (S a9) b9 se)) ++ (gJ kJ 7 7 us (up2 C a9 (vp_updL (C a9) b9 co)) ++ ([] : va_W)))) := hD
            refine lv_iconst (v := 1) hx hb dC_way_86 (by decide) ?_
            refine W.widen (k := 0) (n := 0) (by omega) (by omega) ?_
            exact W.zret (v := 1) (ty := .boolean) hx hb hr (by decide) (fun t ht9 hW9 => ⟨⟨_, (up2 S a9 (upd (S a9) b9 se), up2 C a9 (vp_updL (C a9) b9 co)), rfl, ⟨fun _ => ⟨rfl, by rw [nI_clamp (by omega), nI_clamp (by omega)]⟩, fun h => absurd ⟨w13, w29, c34, w45, w56⟩ h⟩, by rw [ht9]; exact hP, va_K.moved hW9.alike hK, hD⟩, hS.F ht9⟩) hS.2.2 dC_way_87
          · have w56 := w_f hrc c56
            refine lv_iconst (v := 0) hx hb dC_way_59 (by decide) ?_
            refine W.widen (k := 0) (n := 0) (by omega) (by omega) ?_
            exact W.zret (v := 0) (ty := .boolean) hx hb hr (by decide) (fun t ht9 hW9 => ⟨⟨_, (S, C), rfl, ⟨fun h => absurd h (fun h => w56 h.2.2.2.2), fun _ => ⟨rfl, rfl⟩⟩, by rw [ht9]; exact hP, va_K.moved hW9.alike hK, hD⟩, hS.F ht9⟩) hS.2.2 dC_way_60

set_option maxHeartbeats 4000000 in
set_option maxRecDepth 100000 in
theorem cM_way (l : Launch) (D : va_G) (kI kJ kZ kG kH : ClassId) (h0 : Nat) (z_kilograms : Nat) (z_seconds : Nat) (z_waySeconds : Nat) (z_wayCosts : Nat) (z_pairs : Nat) (z_foundKilograms : Nat) (z_rows : Nat) (z_rounds : Nat) (z_costs : Nat) (z_lists : Nat) (z_barred : Nat) (z_row : Nat) (z_newRows : Nat) (z_newRounds : Nat) (z_newCosts : Nat) (z_newLists : Nat) (z_over : Nat) (z_under : Nat) (z_based : Nat) (z_open : Nat) (m_bins : Nat) (m_kilograms : Nat → Int32) (m_seconds : Nat → Int32) (m_waySeconds : Nat → Int32) (m_wayCosts : Nat → Int32) (m_load : Int32) (m_time : Int32) (m_vehicles : Int32) (m_pairs : Nat → Int32) (m_isFound : Int32) (m_foundBins : Int32) (m_foundLoad : Int32) (m_foundVehicles : Int32) (m_foundKilograms : Nat → Int32) (m_rows : Nat → Int32) (m_rounds : Nat → Int32) (m_costs : Nat → Int32) (m_lists : Nat → Int32) (m_barred : Nat → Int32) (m_fault : Int32) (m_row : Nat → Int32) (m_length : Int32) (m_newRows : Nat → Int32) (m_newRounds : Nat → Int32) (m_newCosts : Nat → Int32) (m_newLists : Nat → Int32) (m_over : Nat → Int64) (m_under : Nat → Int64) (m_based : Nat → Int32) (m_open : Nat → Int32) (a : Int32) (b : Int32) (se : Int32) (co : Int64) (hbn : m_bins ≤ 6) (sz : Nat) : Met l yM_way wM_way (rmL 1 0 0) (va_Pc [.ref h0, .int a, .int b, .int se, .long co] (fun U => U.heap.size = sz ∧ wd D kI kJ kZ kG kH [(h0, .inr (8, [.int (nI m_bins), .ref z_kilograms, .ref z_seconds, .ref z_waySeconds, .ref z_wayCosts, .int m_load, .int m_time, .int m_vehicles, .ref z_pairs, .int m_isFound, .int m_foundBins, .int m_foundLoad, .int m_foundVehicles, .ref z_foundKilograms, .ref z_rows, .ref z_rounds, .ref z_costs, .ref z_lists, .ref z_barred, .int m_fault, .ref z_row, .int m_length, .ref z_newRows, .ref z_newRounds, .ref z_newCosts, .ref z_newLists, .ref z_over, .ref z_under, .ref z_based, .ref z_open])), (z_kilograms, .inl (kI, 6, .inl m_kilograms)), (z_seconds, .inl (kI, 6, .inl m_seconds)), (z_waySeconds, .inl (kI, 49, .inl m_waySeconds)), (z_wayCosts, .inl (kI, 49, .inl m_wayCosts)), (z_pairs, .inl (kI, 36, .inl m_pairs)), (z_foundKilograms, .inl (kI, 6, .inl m_foundKilograms)), (z_rows, .inl (kZ, 384, .inl m_rows)), (z_rounds, .inl (kZ, 384, .inl m_rounds)), (z_costs, .inl (kI, 64, .inl m_costs)), (z_lists, .inl (kI, 384, .inl m_lists)), (z_barred, .inl (kZ, 64, .inl m_barred)), (z_row, .inl (kI, 6, .inl m_row)), (z_newRows, .inl (kZ, 384, .inl m_newRows)), (z_newRounds, .inl (kZ, 384, .inl m_newRounds)), (z_newCosts, .inl (kI, 64, .inl m_newCosts)), (z_newLists, .inl (kI, 384, .inl m_newLists)), (z_over, .inl (kJ, 576, .inr (.inl m_over))), (z_under, .inl (kJ, 576, .inr (.inl m_under))), (z_based, .inl (kI, 7, .inl m_based)), (z_open, .inl (kZ, 64, .inl m_open))] U ∧ va_D (fun _ => True) [(h0, .inr (8, [.int (nI m_bins), .ref z_kilograms, .ref z_seconds, .ref z_waySeconds, .ref z_wayCosts, .int m_load, .int m_time, .int m_vehicles, .ref z_pairs, .int m_isFound, .int m_foundBins, .int m_foundLoad, .int m_foundVehicles, .ref z_foundKilograms, .ref z_rows, .ref z_rounds, .ref z_costs, .ref z_lists, .ref z_barred, .int m_fault, .ref z_row, .int m_length, .ref z_newRows, .ref z_newRounds, .ref z_newCosts, .ref z_newLists, .ref z_over, .ref z_under, .ref z_based, .ref z_open])), (z_kilograms, .inl (kI, 6, .inl m_kilograms)), (z_seconds, .inl (kI, 6, .inl m_seconds)), (z_waySeconds, .inl (kI, 49, .inl m_waySeconds)), (z_wayCosts, .inl (kI, 49, .inl m_wayCosts)), (z_pairs, .inl (kI, 36, .inl m_pairs)), (z_foundKilograms, .inl (kI, 6, .inl m_foundKilograms)), (z_rows, .inl (kZ, 384, .inl m_rows)), (z_rounds, .inl (kZ, 384, .inl m_rounds)), (z_costs, .inl (kI, 64, .inl m_costs)), (z_lists, .inl (kI, 384, .inl m_lists)), (z_barred, .inl (kZ, 64, .inl m_barred)), (z_row, .inl (kI, 6, .inl m_row)), (z_newRows, .inl (kZ, 384, .inl m_newRows)), (z_newRounds, .inl (kZ, 384, .inl m_newRounds)), (z_newCosts, .inl (kI, 64, .inl m_newCosts)), (z_newLists, .inl (kI, 384, .inl m_newLists)), (z_over, .inl (kJ, 576, .inr (.inl m_over))), (z_under, .inl (kJ, 576, .inr (.inl m_under))), (z_based, .inl (kI, 7, .inl m_based)), (z_open, .inl (kZ, 64, .inl m_open))])) (va_Qi (fun (r : Int32) (v9 : (Nat → Int32) × (Nat → Int32)) => (okW m_bins a b se co → r = 1 ∧ v9 = (upd m_waySeconds (7 * a.toNatClampNeg + b.toNatClampNeg) se, upd m_wayCosts (7 * a.toNatClampNeg + b.toNatClampNeg) co.toInt32)) ∧ (¬ okW m_bins a b se co → r = 0 ∧ v9 = (m_waySeconds, m_wayCosts))) (fun v9 t => va_P D rcl [(h0, .inr (8, [.int (nI m_bins), .ref z_kilograms, .ref z_seconds, .ref z_waySeconds, .ref z_wayCosts, .int m_load, .int m_time, .int m_vehicles, .ref z_pairs, .int m_isFound, .int m_foundBins, .int m_foundLoad, .int m_foundVehicles, .ref z_foundKilograms, .ref z_rows, .ref z_rounds, .ref z_costs, .ref z_lists, .ref z_barred, .int 0, .ref z_row, .int m_length, .ref z_newRows, .ref z_newRounds, .ref z_newCosts, .ref z_newLists, .ref z_over, .ref z_under, .ref z_based, .ref z_open])), (z_kilograms, .inl (kI, 6, .inl m_kilograms)), (z_seconds, .inl (kI, 6, .inl m_seconds)), (z_waySeconds, .inl (kI, 49, .inl v9.1)), (z_wayCosts, .inl (kI, 49, .inl v9.2)), (z_pairs, .inl (kI, 36, .inl m_pairs)), (z_foundKilograms, .inl (kI, 6, .inl m_foundKilograms)), (z_rows, .inl (kZ, 384, .inl m_rows)), (z_rounds, .inl (kZ, 384, .inl m_rounds)), (z_costs, .inl (kI, 64, .inl m_costs)), (z_lists, .inl (kI, 384, .inl m_lists)), (z_barred, .inl (kZ, 64, .inl m_barred)), (z_row, .inl (kI, 6, .inl m_row)), (z_newRows, .inl (kZ, 384, .inl m_newRows)), (z_newRounds, .inl (kZ, 384, .inl m_newRounds)), (z_newCosts, .inl (kI, 64, .inl m_newCosts)), (z_newLists, .inl (kI, 384, .inl m_newLists)), (z_over, .inl (kJ, 576, .inr (.inl m_over))), (z_under, .inl (kJ, 576, .inr (.inl m_under))), (z_based, .inl (kI, 7, .inl m_based)), (z_open, .inl (kZ, 64, .inl m_open))] t.heap ∧ va_K D rcl (TY kI kJ kZ kG kH) t ∧ va_D (va_A [(h0, .inr (8, [.int (nI m_bins), .ref z_kilograms, .ref z_seconds, .ref z_waySeconds, .ref z_wayCosts, .int m_load, .int m_time, .int m_vehicles, .ref z_pairs, .int m_isFound, .int m_foundBins, .int m_foundLoad, .int m_foundVehicles, .ref z_foundKilograms, .ref z_rows, .ref z_rounds, .ref z_costs, .ref z_lists, .ref z_barred, .int m_fault, .ref z_row, .int m_length, .ref z_newRows, .ref z_newRounds, .ref z_newCosts, .ref z_newLists, .ref z_over, .ref z_under, .ref z_based, .ref z_open])), (z_kilograms, .inl (kI, 6, .inl m_kilograms)), (z_seconds, .inl (kI, 6, .inl m_seconds)), (z_waySeconds, .inl (kI, 49, .inl m_waySeconds)), (z_wayCosts, .inl (kI, 49, .inl m_wayCosts)), (z_pairs, .inl (kI, 36, .inl m_pairs)), (z_foundKilograms, .inl (kI, 6, .inl m_foundKilograms)), (z_rows, .inl (kZ, 384, .inl m_rows)), (z_rounds, .inl (kZ, 384, .inl m_rounds)), (z_costs, .inl (kI, 64, .inl m_costs)), (z_lists, .inl (kI, 384, .inl m_lists)), (z_barred, .inl (kZ, 64, .inl m_barred)), (z_row, .inl (kI, 6, .inl m_row)), (z_newRows, .inl (kZ, 384, .inl m_newRows)), (z_newRounds, .inl (kZ, 384, .inl m_newRounds)), (z_newCosts, .inl (kI, 64, .inl m_newCosts)), (z_newLists, .inl (kI, 384, .inl m_newLists)), (z_over, .inl (kJ, 576, .inr (.inl m_over))), (z_under, .inl (kJ, 576, .inr (.inl m_under))), (z_based, .inl (kI, 7, .inl m_based)), (z_open, .inl (kZ, 64, .inl m_open))] sz) [(h0, .inr (8, [.int (nI m_bins), .ref z_kilograms, .ref z_seconds, .ref z_waySeconds, .ref z_wayCosts, .int m_load, .int m_time, .int m_vehicles, .ref z_pairs, .int m_isFound, .int m_foundBins, .int m_foundLoad, .int m_foundVehicles, .ref z_foundKilograms, .ref z_rows, .ref z_rounds, .ref z_costs, .ref z_lists, .ref z_barred, .int 0, .ref z_row, .int m_length, .ref z_newRows, .ref z_newRounds, .ref z_newCosts, .ref z_newLists, .ref z_over, .ref z_under, .ref z_based, .ref z_open])), (z_kilograms, .inl (kI, 6, .inl m_kilograms)), (z_seconds, .inl (kI, 6, .inl m_seconds)), (z_waySeconds, .inl (kI, 49, .inl v9.1)), (z_wayCosts, .inl (kI, 49, .inl v9.2)), (z_pairs, .inl (kI, 36, .inl m_pairs)), (z_foundKilograms, .inl (kI, 6, .inl m_foundKilograms)), (z_rows, .inl (kZ, 384, .inl m_rows)), (z_rounds, .inl (kZ, 384, .inl m_rounds)), (z_costs, .inl (kI, 64, .inl m_costs)), (z_lists, .inl (kI, 384, .inl m_lists)), (z_barred, .inl (kZ, 64, .inl m_barred)), (z_row, .inl (kI, 6, .inl m_row)), (z_newRows, .inl (kZ, 384, .inl m_newRows)), (z_newRounds, .inl (kZ, 384, .inl m_newRounds)), (z_newCosts, .inl (kI, 64, .inl m_newCosts)), (z_newLists, .inl (kI, 384, .inl m_newLists)), (z_over, .inl (kJ, 576, .inr (.inl m_over))), (z_under, .inl (kJ, 576, .inr (.inl m_under))), (z_based, .inl (kI, 7, .inl m_based)), (z_open, .inl (kZ, 64, .inl m_open))]) (va_A [(h0, .inr (8, [.int (nI m_bins), .ref z_kilograms, .ref z_seconds, .ref z_waySeconds, .ref z_wayCosts, .int m_load, .int m_time, .int m_vehicles, .ref z_pairs, .int m_isFound, .int m_foundBins, .int m_foundLoad, .int m_foundVehicles, .ref z_foundKilograms, .ref z_rows, .ref z_rounds, .ref z_costs, .ref z_lists, .ref z_barred, .int m_fault, .ref z_row, .int m_length, .ref z_newRows, .ref z_newRounds, .ref z_newCosts, .ref z_newLists, .ref z_over, .ref z_under, .ref z_based, .ref z_open])), (z_kilograms, .inl (kI, 6, .inl m_kilograms)), (z_seconds, .inl (kI, 6, .inl m_seconds)), (z_waySeconds, .inl (kI, 49, .inl m_waySeconds)), (z_wayCosts, .inl (kI, 49, .inl m_wayCosts)), (z_pairs, .inl (kI, 36, .inl m_pairs)), (z_foundKilograms, .inl (kI, 6, .inl m_foundKilograms)), (z_rows, .inl (kZ, 384, .inl m_rows)), (z_rounds, .inl (kZ, 384, .inl m_rounds)), (z_costs, .inl (kI, 64, .inl m_costs)), (z_lists, .inl (kI, 384, .inl m_lists)), (z_barred, .inl (kZ, 64, .inl m_barred)), (z_row, .inl (kI, 6, .inl m_row)), (z_newRows, .inl (kZ, 384, .inl m_newRows)), (z_newRounds, .inl (kZ, 384, .inl m_newRounds)), (z_newCosts, .inl (kI, 64, .inl m_newCosts)), (z_newLists, .inl (kI, 384, .inl m_newLists)), (z_over, .inl (kJ, 576, .inr (.inl m_over))), (z_under, .inl (kJ, 576, .inr (.inl m_under))), (z_based, .inl (kI, 7, .inl m_based)), (z_open, .inl (kZ, 64, .inl m_open))] sz)) 0 0 (va_A [(h0, .inr (8, [.int (nI m_bins), .ref z_kilograms, .ref z_seconds, .ref z_waySeconds, .ref z_wayCosts, .int m_load, .int m_time, .int m_vehicles, .ref z_pairs, .int m_isFound, .int m_foundBins, .int m_foundLoad, .int m_foundVehicles, .ref z_foundKilograms, .ref z_rows, .ref z_rounds, .ref z_costs, .ref z_lists, .ref z_barred, .int m_fault, .ref z_row, .int m_length, .ref z_newRows, .ref z_newRounds, .ref z_newCosts, .ref z_newLists, .ref z_over, .ref z_under, .ref z_based, .ref z_open])), (z_kilograms, .inl (kI, 6, .inl m_kilograms)), (z_seconds, .inl (kI, 6, .inl m_seconds)), (z_waySeconds, .inl (kI, 49, .inl m_waySeconds)), (z_wayCosts, .inl (kI, 49, .inl m_wayCosts)), (z_pairs, .inl (kI, 36, .inl m_pairs)), (z_foundKilograms, .inl (kI, 6, .inl m_foundKilograms)), (z_rows, .inl (kZ, 384, .inl m_rows)), (z_rounds, .inl (kZ, 384, .inl m_rounds)), (z_costs, .inl (kI, 64, .inl m_costs)), (z_lists, .inl (kI, 384, .inl m_lists)), (z_barred, .inl (kZ, 64, .inl m_barred)), (z_row, .inl (kI, 6, .inl m_row)), (z_newRows, .inl (kZ, 384, .inl m_newRows)), (z_newRounds, .inl (kZ, 384, .inl m_newRounds)), (z_newCosts, .inl (kI, 64, .inl m_newCosts)), (z_newLists, .inl (kI, 384, .inl m_newLists)), (z_over, .inl (kJ, 576, .inr (.inl m_over))), (z_under, .inl (kJ, 576, .inr (.inl m_under))), (z_based, .inl (kI, 7, .inl m_based)), (z_open, .inl (kZ, 64, .inl m_open))] sz) := by
  refine Met.ofW (cc := bM_way) (maxL := 6) (ret := (some .boolean)) (by decide) rfl ?_
  intro p e s m args below meth c s₁ B hml hv
  obtain ⟨rfl, hsz, ⟨hP, hK, hN⟩, hD0⟩ := hv
  have hx := B.exec
  have hb := B.bytes
  have hr := B.returns
  have hts := atoms_spec (ws := wM_way) B.pre
  have hown : s.vm.findClass NM = some m.cls := findClass_of_methodNamed B.named
  have hlocks := B.notSynchronized
  subst hsz
  have hD := hD0.self (sz := s.heap.size)
  generalize hAe : va_A [(h0, .inr (8, [.int (nI m_bins), .ref z_kilograms, .ref z_seconds, .ref z_waySeconds, .ref z_wayCosts, .int m_load, .int m_time, .int m_vehicles, .ref z_pairs, .int m_isFound, .int m_foundBins, .int m_foundLoad, .int m_foundVehicles, .ref z_foundKilograms, .ref z_rows, .ref z_rounds, .ref z_costs, .ref z_lists, .ref z_barred, .int m_fault, .ref z_row, .int m_length, .ref z_newRows, .ref z_newRounds, .ref z_newCosts, .ref z_newLists, .ref z_over, .ref z_under, .ref z_based, .ref z_open])), (z_kilograms, .inl (kI, 6, .inl m_kilograms)), (z_seconds, .inl (kI, 6, .inl m_seconds)), (z_waySeconds, .inl (kI, 49, .inl m_waySeconds)), (z_wayCosts, .inl (kI, 49, .inl m_wayCosts)), (z_pairs, .inl (kI, 36, .inl m_pairs)), (z_foundKilograms, .inl (kI, 6, .inl m_foundKilograms)), (z_rows, .inl (kZ, 384, .inl m_rows)), (z_rounds, .inl (kZ, 384, .inl m_rounds)), (z_costs, .inl (kI, 64, .inl m_costs)), (z_lists, .inl (kI, 384, .inl m_lists)), (z_barred, .inl (kZ, 64, .inl m_barred)), (z_row, .inl (kI, 6, .inl m_row)), (z_newRows, .inl (kZ, 384, .inl m_newRows)), (z_newRounds, .inl (kZ, 384, .inl m_newRounds)), (z_newCosts, .inl (kI, 64, .inl m_newCosts)), (z_newLists, .inl (kI, 384, .inl m_newLists)), (z_over, .inl (kJ, 576, .inr (.inl m_over))), (z_under, .inl (kJ, 576, .inr (.inl m_under))), (z_based, .inl (kI, 7, .inl m_based)), (z_open, .inl (kZ, 64, .inl m_open))] s.heap.size = A at hD ⊢
  have hA : ∀ q : Nat, s.heap.size ≤ q → A q := fun q h => by rw [← hAe]; exact Or.inr h
  have hS : va_S A s.heap s.heap [] := va_S.rf
  have hP : va_P D rcl [(h0, .inr (8, [.int (nI m_bins), .ref z_kilograms, .ref z_seconds, .ref z_waySeconds, .ref z_wayCosts, .int m_load, .int m_time, .int m_vehicles, .ref z_pairs, .int m_isFound, .int m_foundBins, .int m_foundLoad, .int m_foundVehicles, .ref z_foundKilograms, .ref z_rows, .ref z_rounds, .ref z_costs, .ref z_lists, .ref z_barred, .int m_fault, .ref z_row, .int m_length, .ref z_newRows, .ref z_newRounds, .ref z_newCosts, .ref z_newLists, .ref z_over, .ref z_under, .ref z_based, .ref z_open])), (z_kilograms, .inl (kI, 6, .inl m_kilograms)), (z_seconds, .inl (kI, 6, .inl m_seconds)), (z_waySeconds, .inl (kI, 49, .inl m_waySeconds)), (z_wayCosts, .inl (kI, 49, .inl m_wayCosts)), (z_pairs, .inl (kI, 36, .inl m_pairs)), (z_foundKilograms, .inl (kI, 6, .inl m_foundKilograms)), (z_rows, .inl (kZ, 384, .inl m_rows)), (z_rounds, .inl (kZ, 384, .inl m_rounds)), (z_costs, .inl (kI, 64, .inl m_costs)), (z_lists, .inl (kI, 384, .inl m_lists)), (z_barred, .inl (kZ, 64, .inl m_barred)), (z_row, .inl (kI, 6, .inl m_row)), (z_newRows, .inl (kZ, 384, .inl m_newRows)), (z_newRounds, .inl (kZ, 384, .inl m_newRounds)), (z_newCosts, .inl (kI, 64, .inl m_newCosts)), (z_newLists, .inl (kI, 384, .inl m_newLists)), (z_over, .inl (kJ, 576, .inr (.inl m_over))), (z_under, .inl (kJ, 576, .inr (.inl m_under))), (z_based, .inl (kI, 7, .inl m_based)), (z_open, .inl (kZ, 64, .inl m_open))] s.heap := hP
  have hl := lv_entry ([.ref h0, .int a, .int b, .int se, .long co]) (n := 6) (Nat.le_of_ble_eq_true rfl)
  rw [lg_entry_eq]
  generalize (lg_sl ([.ref h0, .int a, .int b, .int se, .long co]) ++ List.replicate (6 - (lg_sl ([.ref h0, .int a, .int b, .int se, .long co])).length) Slot.unset).toArray = ls at hl ⊢
  have hl : lv_has ls 6 [(0, .ref h0), (1, .int a), (2, .int b), (3, .int se), (4, .long co)] := hl
  refine lv_aload_n hx hb dM_way_0 rfl (lv_at hl 0 rfl) ?_
  refine lv_iconst (v := 0) hx hb dM_way_1 (by decide) ?_
  refine va_put (D := D) (cl := rcl) (ci := 8) (v := .int 0) (ty := .int) (C := NM) (T := TM) (N := 30) hx hb hts (fun w h => gw_t w (uwM w h)) tyM tyM_ok nmM hown hK hP hD hS 0 rfl rfl 19 (by decide) (hts _ (gw_t _ hw649)) (fun _ h9 => h9) rfl (by decide +kernel) (rfl) (rfl) (Nat.le_of_ble_eq_true rfl) dM_way_2 (fun H locs hP hD hS => ?_)
  have hP : va_P D rcl [(h0, .inr (8, [.int (nI m_bins), .ref z_kilograms, .ref z_seconds, .ref z_waySeconds, .ref z_wayCosts, .int m_load, .int m_time, .int m_vehicles, .ref z_pairs, .int m_isFound, .int m_foundBins, .int m_foundLoad, .int m_foundVehicles, .ref z_foundKilograms, .ref z_rows, .ref z_rounds, .ref z_costs, .ref z_lists, .ref z_barred, .int 0, .ref z_row, .int m_length, .ref z_newRows, .ref z_newRounds, .ref z_newCosts, .ref z_newLists, .ref z_over, .ref z_under, .ref z_based, .ref z_open])), (z_kilograms, .inl (kI, 6, .inl m_kilograms)), (z_seconds, .inl (kI, 6, .inl m_seconds)), (z_waySeconds, .inl (kI, 49, .inl m_waySeconds)), (z_wayCosts, .inl (kI, 49, .inl m_wayCosts)), (z_pairs, .inl (kI, 36, .inl m_pairs)), (z_foundKilograms, .inl (kI, 6, .inl m_foundKilograms)), (z_rows, .inl (kZ, 384, .inl m_rows)), (z_rounds, .inl (kZ, 384, .inl m_rounds)), (z_costs, .inl (kI, 64, .inl m_costs)), (z_lists, .inl (kI, 384, .inl m_lists)), (z_barred, .inl (kZ, 64, .inl m_barred)), (z_row, .inl (kI, 6, .inl m_row)), (z_newRows, .inl (kZ, 384, .inl m_newRows)), (z_newRounds, .inl (kZ, 384, .inl m_newRounds)), (z_newCosts, .inl (kI, 64, .inl m_newCosts)), (z_newLists, .inl (kI, 384, .inl m_newLists)), (z_over, .inl (kJ, 576, .inr (.inl m_over))), (z_under, .inl (kJ, 576, .inr (.inl m_under))), (z_based, .inl (kI, 7, .inl m_based)), (z_open, .inl (kZ, 64, .inl m_open))] H := hP
  have hD : va_D A [(h0, .inr (8, [.int (nI m_bins), .ref z_kilograms, .ref z_seconds, .ref z_waySeconds, .ref z_wayCosts, .int m_load, .int m_time, .int m_vehicles, .ref z_pairs, .int m_isFound, .int m_foundBins, .int m_foundLoad, .int m_foundVehicles, .ref z_foundKilograms, .ref z_rows, .ref z_rounds, .ref z_costs, .ref z_lists, .ref z_barred, .int 0, .ref z_row, .int m_length, .ref z_newRows, .ref z_newRounds, .ref z_newCosts, .ref z_newLists, .ref z_over, .ref z_under, .ref z_based, .ref z_open])), (z_kilograms, .inl (kI, 6, .inl m_kilograms)), (z_seconds, .inl (kI, 6, .inl m_seconds)), (z_waySeconds, .inl (kI, 49, .inl m_waySeconds)), (z_wayCosts, .inl (kI, 49, .inl m_wayCosts)), (z_pairs, .inl (kI, 36, .inl m_pairs)), (z_foundKilograms, .inl (kI, 6, .inl m_foundKilograms)), (z_rows, .inl (kZ, 384, .inl m_rows)), (z_rounds, .inl (kZ, 384, .inl m_rounds)), (z_costs, .inl (kI, 64, .inl m_costs)), (z_lists, .inl (kI, 384, .inl m_lists)), (z_barred, .inl (kZ, 64, .inl m_barred)), (z_row, .inl (kI, 6, .inl m_row)), (z_newRows, .inl (kZ, 384, .inl m_newRows)), (z_newRounds, .inl (kZ, 384, .inl m_newRounds)), (z_newCosts, .inl (kI, 64, .inl m_newCosts)), (z_newLists, .inl (kI, 384, .inl m_newLists)), (z_over, .inl (kJ, 576, .inr (.inl m_over))), (z_under, .inl (kJ, 576, .inr (.inl m_under))), (z_based, .inl (kI, 7, .inl m_based)), (z_open, .inl (kZ, 64, .inl m_open))] := hD
  refine lv_iload_n hx hb dM_way_5 rfl (lv_at hl 1 rfl) ?_
  refine lv_i2l (v := a.toInt64) hx hb dM_way_6 rfl ?_
  refine lv_aload_n hx hb dM_way_7 rfl (lv_at hl 0 rfl) ?_
  refine va_get (D := D) (cl := rcl) (ci := 8) (v := .int (nI m_bins)) (C := NM) (T := TM) (N := 30) hx hb hts (fun w h => gw_t w (uwM w h)) hown hK hP 0 rfl rfl 0 (by decide) (hts _ (gw_t _ hw630)) (fun _ h9 => h9) rfl dM_way_8 ?_
  refine lv_i2l (v := (nI m_bins).toInt64) hx hb dM_way_11 rfl ?_
  refine vp_callSi (W.runS (As := [.long a.toInt64, .long ((nI m_bins).toInt64)]) (rest := []) ⟨hx, hb, hml, hown, hts⟩ (cM_isIn l a.toInt64 ((nI m_bins).toInt64)) ⟨cB 2 hts hw728 hw8 hw726 (by decide +kernel) ⟨Nat.le_of_ble_eq_true rfl, Nat.le_of_ble_eq_true rfl⟩ rfl rfl, hts _ (gw_t _ hw727)⟩ ⟨fun a U g mk q => ⟨q.1, trivial⟩, fun U hU hW => ⟨rfl, trivial⟩⟩ rfl rfl hl.1 rfl (lv_room (Nat.le_of_ble_eq_true rfl)) dM_way_12 ⟨Nat.le_of_ble_eq_true rfl, Nat.le_of_ble_eq_true rfl⟩) (fun ra hra => ?_)
  refine lv_if_eq (tgt := 58) hx hb dM_way_15 (by decide) (fun c15 => ?_) (fun c15 => ?_)
  · have w15 := w_f hra c15
    refine lv_iconst (v := 0) hx hb dM_way_58 (by decide) ?_
    refine W.widen (k := 0) (n := 0) (by omega) (by omega) ?_
    exact W.zret (v := 0) (ty := .boolean) hx hb hr (by decide) (fun t ht9 hW9 => ⟨⟨_, (m_waySeconds, m_wayCosts), rfl, ⟨fun h => absurd h (fun h => w15 h.1), fun _ => ⟨rfl, rfl⟩⟩, by rw [ht9]; exact hP, va_K.moved hW9.alike hK, hD⟩, hS.F ht9⟩) hS.2.2 dM_way_59
  · have w15 := w_t hra c15
    refine lv_iload_n hx hb dM_way_18 rfl (lv_at hl 2 rfl) ?_
    refine lv_i2l (v := b.toInt64) hx hb dM_way_19 rfl ?_
    refine lv_aload_n hx hb dM_way_20 rfl (lv_at hl 0 rfl) ?_
    refine va_get (D := D) (cl := rcl) (ci := 8) (v := .int (nI m_bins)) (C := NM) (T := TM) (N := 30) hx hb hts (fun w h => gw_t w (uwM w h)) hown hK hP 0 rfl rfl 0 (by decide) (hts _ (gw_t _ hw630)) (fun _ h9 => h9) rfl dM_way_21 ?_
    refine lv_i2l (v := (nI m_bins).toInt64) hx hb dM_way_24 rfl ?_
    refine vp_callSi (W.runS (As := [.long b.toInt64, .long ((nI m_bins).toInt64)]) (rest := []) ⟨hx, hb, hml, hown, hts⟩ (cM_isIn l b.toInt64 ((nI m_bins).toInt64)) ⟨cB 2 hts hw728 hw8 hw726 (by decide +kernel) ⟨Nat.le_of_ble_eq_true rfl, Nat.le_of_ble_eq_true rfl⟩ rfl rfl, hts _ (gw_t _ hw727)⟩ ⟨fun a U g mk q => ⟨q.1, trivial⟩, fun U hU hW => ⟨rfl, trivial⟩⟩ rfl rfl hl.1 rfl (lv_room (Nat.le_of_ble_eq_true rfl)) dM_way_25 ⟨Nat.le_of_ble_eq_true rfl, Nat.le_of_ble_eq_true rfl⟩) (fun rb hrb => ?_)
    refine lv_if_eq (tgt := 58) hx hb dM_way_28 (by decide) (fun c28 => ?_) (fun c28 => ?_)
    · have w28 := w_f hrb c28
      refine lv_iconst (v := 0) hx hb dM_way_58 (by decide) ?_
      refine W.widen (k := 0) (n := 0) (by omega) (by omega) ?_
      exact W.zret (v := 0) (ty := .boolean) hx hb hr (by decide) (fun t ht9 hW9 => ⟨⟨_, (m_waySeconds, m_wayCosts), rfl, ⟨fun h => absurd h (fun h => w28 h.2.1), fun _ => ⟨rfl, rfl⟩⟩, by rw [ht9]; exact hP, va_K.moved hW9.alike hK, hD⟩, hS.F ht9⟩) hS.2.2 dM_way_59
    · have w28 := w_t hrb c28
      refine lv_iload_n hx hb dM_way_31 rfl (lv_at hl 1 rfl) ?_
      refine lv_iload_n hx hb dM_way_32 rfl (lv_at hl 2 rfl) ?_
      refine lv_icmp_eq (tgt := 58) hx hb dM_way_33 (by decide) (fun c33 => ?_) (fun c33 => ?_)
      · refine lv_iconst (v := 0) hx hb dM_way_58 (by decide) ?_
        refine W.widen (k := 0) (n := 0) (by omega) (by omega) ?_
        exact W.zret (v := 0) (ty := .boolean) hx hb hr (by decide) (fun t ht9 hW9 => ⟨⟨_, (m_waySeconds, m_wayCosts), rfl, ⟨fun h => absurd h (fun h => h.2.2.1 c33), fun _ => ⟨rfl, rfl⟩⟩, by rw [ht9]; exact hP, va_K.moved hW9.alike hK, hD⟩, hS.F ht9⟩) hS.2.2 dM_way_59
      · refine lv_iload_n hx hb dM_way_36 rfl (lv_at hl 3 rfl) ?_
        refine lv_i2l (v := se.toInt64) hx hb dM_way_37 rfl ?_
        refine lv_ldc2 (v := 1000) (own := NM) hx hb hown (hts _ (gw_t _ hw725)) dM_way_38 ?_
        refine vp_callSi (W.runS (As := [.long se.toInt64, .long 1000]) (rest := []) ⟨hx, hb, hml, hown, hts⟩ (cM_isIn l se.toInt64 1000) ⟨cB 2 hts hw728 hw8 hw726 (by decide +kernel) ⟨Nat.le_of_ble_eq_true rfl, Nat.le_of_ble_eq_true rfl⟩ rfl rfl, hts _ (gw_t _ hw727)⟩ ⟨fun a U g mk q => ⟨q.1, trivial⟩, fun U hU hW => ⟨rfl, trivial⟩⟩ rfl rfl hl.1 rfl (lv_room (Nat.le_of_ble_eq_true rfl)) dM_way_41 ⟨Nat.le_of_ble_eq_true rfl, Nat.le_of_ble_eq_true rfl⟩) (fun rs hrs => ?_)
        refine lv_if_eq (tgt := 58) hx hb dM_way_44 (by decide) (fun c44 => ?_) (fun c44 => ?_)
        · have w44 := w_f hrs c44
          refine lv_iconst (v := 0) hx hb dM_way_58 (by decide) ?_
          refine W.widen (k := 0) (n := 0) (by omega) (by omega) ?_
          exact W.zret (v := 0) (ty := .boolean) hx hb hr (by decide) (fun t ht9 hW9 => ⟨⟨_, (m_waySeconds, m_wayCosts), rfl, ⟨fun h => absurd h (fun h => w44 h.2.2.2.1), fun _ => ⟨rfl, rfl⟩⟩, by rw [ht9]; exact hP, va_K.moved hW9.alike hK, hD⟩, hS.F ht9⟩) hS.2.2 dM_way_59
        · have w44 := w_t hrs c44
          refine lv_lload hx hb dM_way_47 (lv_at hl 4 rfl) ?_
          refine lv_ldc2 (v := 2000) (own := NM) hx hb hown (hts _ (gw_t _ hw733)) dM_way_49 ?_
          refine vp_callSi (W.runS (As := [.long co, .long 2000]) (rest := []) ⟨hx, hb, hml, hown, hts⟩ (cM_isIn l co 2000) ⟨cB 2 hts hw728 hw8 hw726 (by decide +kernel) ⟨Nat.le_of_ble_eq_true rfl, Nat.le_of_ble_eq_true rfl⟩ rfl rfl, hts _ (gw_t _ hw727)⟩ ⟨fun a U g mk q => ⟨q.1, trivial⟩, fun U hU hW => ⟨rfl, trivial⟩⟩ rfl rfl hl.1 rfl (lv_room (Nat.le_of_ble_eq_true rfl)) dM_way_52 ⟨Nat.le_of_ble_eq_true rfl, Nat.le_of_ble_eq_true rfl⟩) (fun rc hrc => ?_)
          refine lv_if_ne (tgt := 60) hx hb dM_way_55 (by decide) (fun c55 => ?_) (fun c55 => ?_)
          · have w55 := w_t hrc c55
            obtain ⟨a9, ha9, rfl⟩ := ix_le w15 (by omega)
            obtain ⟨b9, hb9, rfl⟩ := ix_le w28 (by omega)
            refine lv_aload_n hx hb dM_way_60 rfl (lv_at hl 0 rfl) ?_
            refine va_get (D := D) (cl := rcl) (ci := 8) (v := .ref z_waySeconds) (C := NM) (T := TM) (N := 30) hx hb hts (fun w h => gw_t w (uwM w h)) hown hK hP 0 rfl rfl 3 (by decide) (hts _ (gw_t _ hw633)) (fun _ h9 => h9) rfl dM_way_61 ?_
            refine lv_bipush (v := 7) hx hb dM_way_64 (by decide) ?_
            refine lv_iload_n hx hb dM_way_66 rfl (lv_at hl 1 rfl) ?_
            refine lv_imul hx hb dM_way_67 ?_
            refine lc_i (y := nI (7 * a9)) (pk_mul 7 a9) ?_
            refine lv_iload_n hx hb dM_way_68 rfl (lv_at hl 2 rfl) ?_
            refine lv_iadd hx hb dM_way_69 ?_
            refine lc_i (y := nI (7 * a9 + b9)) (nI_add (7 * a9) b9) ?_
            refine lv_iload_n hx hb dM_way_70 rfl (lv_at hl 3 rfl) ?_
            refine wa_i (k := 7 * a9 + b9) hx hb hK hP hD hS 3 0 rfl rfl (by omega) (by omega) dM_way_71 (fun H locs hP hD hS => ?_)
            have hP : va_P D rcl [(h0, .inr (8, [.int (nI m_bins), .ref z_kilograms, .ref z_seconds, .ref z_waySeconds, .ref z_wayCosts, .int m_load, .int m_time, .int m_vehicles, .ref z_pairs, .int m_isFound, .int m_foundBins, .int m_foundLoad, .int m_foundVehicles, .ref z_foundKilograms, .ref z_rows, .ref z_rounds, .ref z_costs, .ref z_lists, .ref z_barred, .int 0, .ref z_row, .int m_length, .ref z_newRows, .ref z_newRounds, .ref z_newCosts, .ref z_newLists, .ref z_over, .ref z_under, .ref z_based, .ref z_open])), (z_kilograms, .inl (kI, 6, .inl m_kilograms)), (z_seconds, .inl (kI, 6, .inl m_seconds)), (z_waySeconds, .inl (kI, 49, .inl (upd m_waySeconds (7 * a9 + b9) se))), (z_wayCosts, .inl (kI, 49, .inl m_wayCosts)), (z_pairs, .inl (kI, 36, .inl m_pairs)), (z_foundKilograms, .inl (kI, 6, .inl m_foundKilograms)), (z_rows, .inl (kZ, 384, .inl m_rows)), (z_rounds, .inl (kZ, 384, .inl m_rounds)), (z_costs, .inl (kI, 64, .inl m_costs)), (z_lists, .inl (kI, 384, .inl m_lists)), (z_barred, .inl (kZ, 64, .inl m_barred)), (z_row, .inl (kI, 6, .inl m_row)), (z_newRows, .inl (kZ, 384, .inl m_newRows)), (z_newRounds, .inl (kZ, 384, .inl m_newRounds)), (z_newCosts, .inl (kI, 64, .inl m_newCosts)), (z_newLists, .inl (kI, 384, .inl m_newLists)), (z_over, .inl (kJ, 576, .inr (.inl m_over))), (z_under, .inl (kJ, 576, .inr (.inl m_under))), (z_based, .inl (kI, 7, .inl m_based)), (z_open, .inl (kZ, 64, .inl m_open))] H := hP
            have hD : va_D A [(h0, .inr (8, [.int (nI m_bins), .ref z_kilograms, .ref z_seconds, .ref z_waySeconds, .ref z_wayCosts, .int m_load, .int m_time, .int m_vehicles, .ref z_pairs, .int m_isFound, .int m_foundBins, .int m_foundLoad, .int m_foundVehicles, .ref z_foundKilograms, .ref z_rows, .ref z_rounds, .ref z_costs, .ref z_lists, .ref z_barred, .int 0, .ref z_row, .int m_length, .ref z_newRows, .ref z_newRounds, .ref z_newCosts, .ref z_newLists, .ref z_over, .ref z_under, .ref z_based, .ref z_open])), (z_kilograms, .inl (kI, 6, .inl m_kilograms)), (z_seconds, .inl (kI, 6, .inl m_seconds)), (z_waySeconds, .inl (kI, 49, .inl (upd m_waySeconds (7 * a9 + b9) se))), (z_wayCosts, .inl (kI, 49, .inl m_wayCosts)), (z_pairs, .inl (kI, 36, .inl m_pairs)), (z_foundKilograms, .inl (kI, 6, .inl m_foundKilograms)), (z_rows, .inl (kZ, 384, .inl m_rows)), (z_rounds, .inl (kZ, 384, .inl m_rounds)), (z_costs, .inl (kI, 64, .inl m_costs)), (z_lists, .inl (kI, 384, .inl m_lists)), (z_barred, .inl (kZ, 64, .inl m_barred)), (z_row, .inl (kI, 6, .inl m_row)), (z_newRows, .inl (kZ, 384, .inl m_newRows)), (z_newRounds, .inl (kZ, 384, .inl m_newRounds)), (z_newCosts, .inl (kI, 64, .inl m_newCosts)), (z_newLists, .inl (kI, 384, .inl m_newLists)), (z_over, .inl (kJ, 576, .inr (.inl m_over))), (z_under, .inl (kJ, 576, .inr (.inl m_under))), (z_based, .inl (kI, 7, .inl m_based)), (z_open, .inl (kZ, 64, .inl m_open))] := hD
            refine lv_aload_n hx hb dM_way_72 rfl (lv_at hl 0 rfl) ?_
            refine va_get (D := D) (cl := rcl) (ci := 8) (v := .ref z_wayCosts) (C := NM) (T := TM) (N := 30) hx hb hts (fun w h => gw_t w (uwM w h)) hown hK hP 0 rfl rfl 4 (by decide) (hts _ (gw_t _ hw634)) (fun _ h9 => h9) rfl dM_way_73 ?_
            refine lv_bipush (v := 7) hx hb dM_way_76 (by decide) ?_
            refine lv_iload_n hx hb dM_way_78 rfl (lv_at hl 1 rfl) ?_
            refine lv_imul hx hb dM_way_79 ?_
            refine lc_i (y := nI (7 * a9)) (pk_mul 7 a9) ?_
            refine lv_iload_n hx hb dM_way_80 rfl (lv_at hl 2 rfl) ?_
            refine lv_iadd hx hb dM_way_81 ?_
            refine lc_i (y := nI (7 * a9 + b9)) (nI_add (7 * a9) b9) ?_
            refine lv_lload hx hb dM_way_82 (lv_at hl 4 rfl) ?_
            refine lv_l2i (v := co.toInt32) hx hb dM_way_84 rfl ?_
            refine wa_i (k := 7 * a9 + b9) hx hb hK hP hD hS 4 0 rfl rfl (by omega) (by omega) dM_way_85 (fun H locs hP hD hS => ?_)
            have hP : va_P D rcl [(h0, .inr (8, [.int (nI m_bins), .ref z_kilograms, .ref z_seconds, .ref z_waySeconds, .ref z_wayCosts, .int m_load, .int m_time, .int m_vehicles, .ref z_pairs, .int m_isFound, .int m_foundBins, .int m_foundLoad, .int m_foundVehicles, .ref z_foundKilograms, .ref z_rows, .ref z_rounds, .ref z_costs, .ref z_lists, .ref z_barred, .int 0, .ref z_row, .int m_length, .ref z_newRows, .ref z_newRounds, .ref z_newCosts, .ref z_newLists, .ref z_over, .ref z_under, .ref z_based, .ref z_open])), (z_kilograms, .inl (kI, 6, .inl m_kilograms)), (z_seconds, .inl (kI, 6, .inl m_seconds)), (z_waySeconds, .inl (kI, 49, .inl (upd m_waySeconds (7 * a9 + b9) se))), (z_wayCosts, .inl (kI, 49, .inl (upd m_wayCosts (7 * a9 + b9) co.toInt32))), (z_pairs, .inl (kI, 36, .inl m_pairs)), (z_foundKilograms, .inl (kI, 6, .inl m_foundKilograms)), (z_rows, .inl (kZ, 384, .inl m_rows)), (z_rounds, .inl (kZ, 384, .inl m_rounds)), (z_costs, .inl (kI, 64, .inl m_costs)), (z_lists, .inl (kI, 384, .inl m_lists)), (z_barred, .inl (kZ, 64, .inl m_barred)), (z_row, .inl (kI, 6, .inl m_row)), (z_newRows, .inl (kZ, 384, .inl m_newRows)), (z_newRounds, .inl (kZ, 384, .inl m_newRounds)), (z_newCosts, .inl (kI, 64, .inl m_newCosts)), (z_newLists, .inl (kI, 384, .inl m_newLists)), (z_over, .inl (kJ, 576, .inr (.inl m_over))), (z_under, .inl (kJ, 576, .inr (.inl m_under))), (z_based, .inl (kI, 7, .inl m_based)), (z_open, .inl (kZ, 64, .inl m_open))] H := hP
            have hD : va_D A [(h0, .inr (8, [.int (nI m_bins), .ref z_kilograms, .ref z_seconds, .ref z_waySeconds, .ref z_wayCosts, .int m_load, .int m_time, .int m_vehicles, .ref z_pairs, .int m_isFound, .int m_foundBins, .int m_foundLoad, .int m_foundVehicles, .ref z_foundKilograms, .ref z_rows, .ref z_rounds, .ref z_costs, .ref z_lists, .ref z_barred, .int 0, .ref z_row, .int m_length, .ref z_newRows, .ref z_newRounds, .ref z_newCosts, .ref z_newLists, .ref z_over, .ref z_under, .ref z_based, .ref z_open])), (z_kilograms, .inl (kI, 6, .inl m_kilograms)), (z_seconds, .inl (kI, 6, .inl m_seconds)), (z_waySeconds, .inl (kI, 49, .inl (upd m_waySeconds (7 * a9 + b9) se))), (z_wayCosts, .inl (kI, 49, .inl (upd m_wayCosts (7 * a9 + b9) co.toInt32))), (z_pairs, .inl (kI, 36, .inl m_pairs)), (z_foundKilograms, .inl (kI, 6, .inl m_foundKilograms)), (z_rows, .inl (kZ, 384, .inl m_rows)), (z_rounds, .inl (kZ, 384, .inl m_rounds)), (z_costs, .inl (kI, 64, .inl m_costs)), (z_lists, .inl (kI, 384, .inl m_lists)), (z_barred, .inl (kZ, 64, .inl m_barred)), (z_row, .inl (kI, 6, .inl m_row)), (z_newRows, .inl (kZ, 384, .inl m_newRows)), (z_newRounds, .inl (kZ, 384, .inl m_newRounds)), (z_newCosts, .inl (kI, 64, .inl m_newCosts)), (z_newLists, .inl (kI, 384, .inl m_newLists)), (z_over, .inl (kJ, 576, .inr (.inl m_over))), (z_under, .inl (kJ, 576, .inr (.inl m_under))), (z_based, .inl (kI, 7, .inl m_based)), (z_open, .inl (kZ, 64, .inl m_open))] := hD
            refine lv_iconst (v := 1) hx hb dM_way_86 (by decide) ?_
            refine W.widen (k := 0) (n := 0) (by omega) (by omega) ?_
            exact W.zret (v := 1) (ty := .boolean) hx hb hr (by decide) (fun t ht9 hW9 => ⟨⟨_, (upd m_waySeconds (7 * a9 + b9) se, upd m_wayCosts (7 * a9 + b9) co.toInt32), rfl, ⟨fun _ => ⟨rfl, by rw [nI_clamp (by omega), nI_clamp (by omega)]⟩, fun h => absurd ⟨w15, w28, c33, w44, w55⟩ h⟩, by rw [ht9]; exact hP, va_K.moved hW9.alike hK, hD⟩, hS.F ht9⟩) hS.2.2 dM_way_87
          · have w55 := w_f hrc c55
            refine lv_iconst (v := 0) hx hb dM_way_58 (by decide) ?_
            refine W.widen (k := 0) (n := 0) (by omega) (by omega) ?_
            exact W.zret (v := 0) (ty := .boolean) hx hb hr (by decide) (fun t ht9 hW9 => ⟨⟨_, (m_waySeconds, m_wayCosts), rfl, ⟨fun h => absurd h (fun h => w55 h.2.2.2.2), fun _ => ⟨rfl, rfl⟩⟩, by rw [ht9]; exact hP, va_K.moved hW9.alike hK, hD⟩, hS.F ht9⟩) hS.2.2 dM_way_59
