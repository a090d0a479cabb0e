/-! the class's tableau: every call comes back, whatever the numbers are -/
theorem fit01 {r : Int32} (h : r = 0 ∨ r = 1) : fits .boolean (.int r) = true := by rcases h with rfl | rfl <;> rfl
theorem fd_ne {o : Option Nat} (h : ¬ fdI o = -1) : ∃ f, o = some f := by
  cases o with
  | none => exact absurd rfl h
  | some f => exact ⟨f, rfl⟩
/-- each column's variable is none, or a place of the rows -/
def VO (f : Nat → Int32) : Prop := ∀ j, j < 63 → f j = -1 ∨ ∃ v, v < 65 ∧ f j = nI v
theorem vo_up {f : Nat → Int32} {k : Nat} {x : Int32} (h : VO f) (hx : x = -1 ∨ ∃ v, v < 65 ∧ x = nI v) : VO (upd f k x) := fun j hj => by
  by_cases e : j = k
  · subst e; rw [pk_us]; exact hx
  · rw [pk_un e]; exact h j hj
set_option maxHeartbeats 4000000 in
set_option maxRecDepth 100000 in
theorem cT_thatSavesMost (l : Launch) (D : va_G) (kI kJ kZ kG kH : ClassId) (h0 : Nat) (ta0 : Nat) (ta1 : Nat) (ta2 : Nat) (tar : Nat → Nat) (dn : Int64) (hh : Nat) (ww : Nat) (voc : Nat → Int32) (M : Nat → Nat → Int64) (bz : Nat → Int32) (hh8 : hh ≤ 8) (hw65 : ww ≤ 65) : Met l yT_thatSavesMost wT_thatSavesMost (rmL 0 0 0) (va_Pc [.ref h0] (fun U => wd D kI kJ kZ kG kH (([(h0, .inr (2, [.ref ta0, .long dn, .int (nI hh), .int (nI ww), .ref ta1, .ref ta2])), (ta0, .inl (kI, 63, .inl voc)), (ta1, .inl (kH, 8, .inr (.inr (.inr (.inr (fun i => some (tar i))))))), (ta2, .inl (kI, 8, .inl bz))] : va_W) ++ (gJ kJ 8 65 tar M ++ ([] : va_W))) U)) (vp_Si (fun r : Int32 => ∃ o : Option Nat, r = fdI o ∧ ∀ b, o = some b → b < ww)) 0 0 (fun _ => False) := by
  refine Met.ofW (cc := bT_thatSavesMost) (maxL := 3) (ret := (some .int)) (by decide) rfl ?_
  intro p e s m args below meth c s₁ B hml hv
  obtain ⟨rfl, hP, hK, hN⟩ := hv
  have hx := B.exec
  have hb := B.bytes
  have hr := B.returns
  have hts := atoms_spec (ws := wT_thatSavesMost) B.pre
  have hown : s.vm.findClass NT = some m.cls := findClass_of_methodNamed B.named
  have hlocks := B.notSynchronized
  have hl := lv_entry ([.ref h0]) (n := 3) (Nat.le_of_ble_eq_true rfl)
  rw [lg_entry_eq]
  generalize (lg_sl ([.ref h0]) ++ List.replicate (3 - (lg_sl ([.ref h0])).length) Slot.unset).toArray = ls at hl ⊢
  have hl : lv_has ls 3 [(0, .ref h0)] := hl
  have LP4 : ∀ (dd : Nat) (k : Nat) (bt : Option Nat) (ls : Array Slot), ww - k < dd → (1 ≤ k ∧ k ≤ 65) → (∀ b, bt = some b → b < ww) → lv_has ls 3 [(0, .ref h0), (1, .int (fdI bt)), (2, .int (nI k))] → W p l e (headSpec wT_thatSavesMost (rmL 0 0 0)).room s m ([.ref h0] : List Value).toArray below meth c s.heap [] 0 0 (MQ below (vp_Si (fun r : Int32 => ∃ o : Option Nat, r = fdI o ∧ ∀ b, o = some b → b < ww)) ([.ref h0] : List Value).toArray s 0 0 (fun _ => False)) (F0 m 4 ls []) := by
    intro dd
    induction dd with
    | zero =>
      intro k bt ls hm
      exact absurd hm (Nat.not_lt_zero _)
    | succ dd ihLP4 =>
      intro k bt ls hm hk hbt hl
      refine lv_iload_n hx hb dT_thatSavesMost_4 rfl (lv_at hl 2 rfl) ?_
      refine lv_aload_n hx hb dT_thatSavesMost_5 rfl (lv_at hl 0 rfl) ?_
      refine va_get (D := D) (cl := rcl) (ci := 2) (v := .int (nI ww)) (C := NT) (T := TT) (N := 6) hx hb hts (fun w h => gw_t w (uwT w h)) hown hK hP 0 rfl rfl 3 (by decide) (hts _ (gw_t _ hw118)) (fun _ h9 => h9) rfl dT_thatSavesMost_6 ?_
      refine lv_icmp_ge (tgt := 58) hx hb dT_thatSavesMost_9 (by decide) (fun c9 => ?_) (fun c9 => ?_)
      · have c9 : ww ≤ k := (nI_leI (a := ww) (b := k) (by omega) (by omega)).mp c9
        refine lv_iload_n hx hb dT_thatSavesMost_58 rfl (lv_at hl 1 rfl) ?_
        exact W.iret (v := fdI bt) hx hb hr (fun t ht9 hW9 => ⟨_, rfl, ⟨bt, rfl, hbt⟩, ht9⟩) t_nil dT_thatSavesMost_59
      · have c9 : ¬ ww ≤ k := mt (nI_leI (a := ww) (b := k) (by omega) (by omega)).mpr c9
        refine lv_aload_n hx hb dT_thatSavesMost_12 rfl (lv_at hl 0 rfl) ?_
        refine va_get (D := D) (cl := rcl) (ci := 2) (v := .ref ta1) (C := NT) (T := TT) (N := 6) hx hb hts (fun w h => gw_t w (uwT w h)) hown hK hP 0 rfl rfl 4 (by decide) (hts _ (gw_t _ hw119)) (fun _ h9 => h9) rfl dT_thatSavesMost_13 ?_
        refine lv_iconst (v := 0) hx hb dT_thatSavesMost_16 (by decide) ?_
        refine ra_a (k := 0) (q := tar 0) hx hb hK hP 2 4 rfl rfl (by omega) (by omega) (rfl) dT_thatSavesMost_17 ?_
        refine lv_iload_n hx hb dT_thatSavesMost_18 rfl (lv_at hl 2 rfl) ?_
        refine ra_l (k := k) hx hb hK hP (4 + 0) 1 (gr_get (X := ([(h0, .inr (2, [.ref ta0, .long dn, .int (nI hh), .int (nI ww), .ref ta1, .ref ta2])), (ta0, .inl (kI, 63, .inl voc)), (ta1, .inl (kH, 8, .inr (.inr (.inr (.inr (fun i => some (tar i))))))), (ta2, .inl (kI, 8, .inl bz))] : va_W)) (by omega)) rfl (by omega) (by omega) dT_thatSavesMost_19 ?_
        refine lv_lconst (v := 0) hx hb dT_thatSavesMost_20 (by decide) ?_
        refine W.lcmp hx hb dT_thatSavesMost_21 ?_
        refine lv_if_ge (tgt := 52) hx hb dT_thatSavesMost_22 (by decide) (fun c22 => ?_) (fun c22 => ?_)
        · have c22 := (lg_cmp_ge (M 0 k) 0).mp c22
          refine lv_iinc (v := nI (k + 1)) (lv' := [(2, .int (nI (k + 1))), (0, .ref h0), (1, .int (fdI bt))]) hx hb dT_thatSavesMost_52 hl (k := 2) rfl (nI_add k 1) (by decide) rfl (fun ls hl => ?_)
          refine lv_goto (tgt := 4) hx hb dT_thatSavesMost_55 (by decide) ?_
          exact ihLP4 (k + 1) bt ls (by omega) (by omega) hbt (lv_sub hl [1, 2, 0] rfl)
        · have c22 := mt (lg_cmp_ge (M 0 k) 0).mpr c22
          refine lv_iload_n hx hb dT_thatSavesMost_25 rfl (lv_at hl 1 rfl) ?_
          refine lv_iconst (v := -1) hx hb dT_thatSavesMost_26 (by decide) ?_
          refine lv_icmp_eq (tgt := 50) hx hb dT_thatSavesMost_27 (by decide) (fun c27 => ?_) (fun c27 => ?_)
          · refine lv_iload_n hx hb dT_thatSavesMost_50 rfl (lv_at hl 2 rfl) ?_
            refine lv_istore_n (lv' := [(1, .int (nI k)), (0, .ref h0), (2, .int (nI k))]) hx hb dT_thatSavesMost_51 rfl hl (by decide) rfl (fun ls hl => ?_)
            refine lv_iinc (v := nI (k + 1)) (lv' := [(2, .int (nI (k + 1))), (1, .int (nI k)), (0, .ref h0)]) hx hb dT_thatSavesMost_52 hl (k := 2) rfl (nI_add k 1) (by decide) rfl (fun ls hl => ?_)
            refine lv_goto (tgt := 4) hx hb dT_thatSavesMost_55 (by decide) ?_
            exact ihLP4 (k + 1) (some k) ls (by omega) (by omega) (fun b h => by cases h; omega) (lv_sub hl [2, 1, 0] rfl)
          · obtain ⟨f, rfl⟩ := fd_ne c27
            have hf9 := hbt f rfl
            refine lv_aload_n hx hb dT_thatSavesMost_30 rfl (lv_at hl 0 rfl) ?_
            refine va_get (D := D) (cl := rcl) (ci := 2) (v := .ref ta1) (C := NT) (T := TT) (N := 6) hx hb hts (fun w h => gw_t w (uwT w h)) hown hK hP 0 rfl rfl 4 (by decide) (hts _ (gw_t _ hw119)) (fun _ h9 => h9) rfl dT_thatSavesMost_31 ?_
            refine lv_iconst (v := 0) hx hb dT_thatSavesMost_34 (by decide) ?_
            refine ra_a (k := 0) (q := tar 0) hx hb hK hP 2 4 rfl rfl (by omega) (by omega) (rfl) dT_thatSavesMost_35 ?_
            refine lv_iload_n hx hb dT_thatSavesMost_36 rfl (lv_at hl 2 rfl) ?_
            refine ra_l (k := k) hx hb hK hP (4 + 0) 1 (gr_get (X := ([(h0, .inr (2, [.ref ta0, .long dn, .int (nI hh), .int (nI ww), .ref ta1, .ref ta2])), (ta0, .inl (kI, 63, .inl voc)), (ta1, .inl (kH, 8, .inr (.inr (.inr (.inr (fun i => some (tar i))))))), (ta2, .inl (kI, 8, .inl bz))] : va_W)) (by omega)) rfl (by omega) (by omega) dT_thatSavesMost_37 ?_
            refine lv_aload_n hx hb dT_thatSavesMost_38 rfl (lv_at hl 0 rfl) ?_
            refine va_get (D := D) (cl := rcl) (ci := 2) (v := .ref ta1) (C := NT) (T := TT) (N := 6) hx hb hts (fun w h => gw_t w (uwT w h)) hown hK hP 0 rfl rfl 4 (by decide) (hts _ (gw_t _ hw119)) (fun _ h9 => h9) rfl dT_thatSavesMost_39 ?_
            refine lv_iconst (v := 0) hx hb dT_thatSavesMost_42 (by decide) ?_
            refine ra_a (k := 0) (q := tar 0) hx hb hK hP 2 4 rfl rfl (by omega) (by omega) (rfl) dT_thatSavesMost_43 ?_
            refine lv_iload_n hx hb dT_thatSavesMost_44 rfl (lv_at hl 1 rfl) ?_
            refine ra_l (k := f) hx hb hK hP (4 + 0) 1 (gr_get (X := ([(h0, .inr (2, [.ref ta0, .long dn, .int (nI hh), .int (nI ww), .ref ta1, .ref ta2])), (ta0, .inl (kI, 63, .inl voc)), (ta1, .inl (kH, 8, .inr (.inr (.inr (.inr (fun i => some (tar i))))))), (ta2, .inl (kI, 8, .inl bz))] : va_W)) (by omega)) rfl (by omega) (by omega) dT_thatSavesMost_45 ?_
            refine W.lcmp hx hb dT_thatSavesMost_46 ?_
            refine lv_if_ge (tgt := 52) hx hb dT_thatSavesMost_47 (by decide) (fun c47 => ?_) (fun c47 => ?_)
            · have c47 := (lg_cmp_ge (M 0 k) (M 0 f)).mp c47
              refine lv_iinc (v := nI (k + 1)) (lv' := [(2, .int (nI (k + 1))), (0, .ref h0), (1, .int (nI f))]) hx hb dT_thatSavesMost_52 hl (k := 2) rfl (nI_add k 1) (by decide) rfl (fun ls hl => ?_)
              refine lv_goto (tgt := 4) hx hb dT_thatSavesMost_55 (by decide) ?_
              exact ihLP4 (k + 1) (some f) ls (by omega) (by omega) hbt (lv_sub hl [1, 2, 0] rfl)
            · have c47 := mt (lg_cmp_ge (M 0 k) (M 0 f)).mpr c47
              refine lv_iload_n hx hb dT_thatSavesMost_50 rfl (lv_at hl 2 rfl) ?_
              refine lv_istore_n (lv' := [(1, .int (nI k)), (0, .ref h0), (2, .int (nI k))]) hx hb dT_thatSavesMost_51 rfl hl (by decide) rfl (fun ls hl => ?_)
              refine lv_iinc (v := nI (k + 1)) (lv' := [(2, .int (nI (k + 1))), (1, .int (nI k)), (0, .ref h0)]) hx hb dT_thatSavesMost_52 hl (k := 2) rfl (nI_add k 1) (by decide) rfl (fun ls hl => ?_)
              refine lv_goto (tgt := 4) hx hb dT_thatSavesMost_55 (by decide) ?_
              exact ihLP4 (k + 1) (some k) ls (by omega) (by omega) (fun b h => by cases h; omega) (lv_sub hl [2, 1, 0] rfl)
  refine lv_iconst (v := -1) hx hb dT_thatSavesMost_0 (by decide) ?_
  refine lv_istore_n (lv' := [(1, .int (-1)), (0, .ref h0)]) hx hb dT_thatSavesMost_1 rfl hl (by decide) rfl (fun ls hl => ?_)
  refine lv_iconst (v := 1) hx hb dT_thatSavesMost_2 (by decide) ?_
  refine lv_istore_n (lv' := [(2, .int 1), (1, .int (-1)), (0, .ref h0)]) hx hb dT_thatSavesMost_3 rfl hl (by decide) rfl (fun ls hl => ?_)
  exact LP4 _ 1 none ls (Nat.lt_succ_self _) (by omega) (fun b h => by cases h) (lv_sub hl [2, 1, 0] rfl)

set_option maxHeartbeats 4000000 in
set_option maxRecDepth 100000 in
theorem cT_firstThatSaves (l : Launch) (D : va_G) (kI kJ kZ kG kH : ClassId) (h0 : Nat) (ta0 : Nat) (ta1 : Nat) (ta2 : Nat) (tar : Nat → Nat) (dn : Int64) (hh : Nat) (ww : Nat) (voc : Nat → Int32) (M : Nat → Nat → Int64) (bz : Nat → Int32) (hh8 : hh ≤ 8) (hw65 : ww ≤ 65) : Met l yT_firstThatSaves wT_firstThatSaves (rmL 0 0 0) (va_Pc [.ref h0] (fun U => wd D kI kJ kZ kG kH (([(h0, .inr (2, [.ref ta0, .long dn, .int (nI hh), .int (nI ww), .ref ta1, .ref ta2])), (ta0, .inl (kI, 63, .inl voc)), (ta1, .inl (kH, 8, .inr (.inr (.inr (.inr (fun i => some (tar i))))))), (ta2, .inl (kI, 8, .inl bz))] : va_W) ++ (gJ kJ 8 65 tar M ++ ([] : va_W))) U)) (vp_Si (fun r : Int32 => ∃ o : Option Nat, r = fdI o ∧ ∀ b, o = some b → b < ww)) 0 0 (fun _ => False) := by
  refine Met.ofW (cc := bT_firstThatSaves) (maxL := 2) (ret := (some .int)) (by decide) rfl ?_
  intro p e s m args below meth c s₁ B hml hv
  obtain ⟨rfl, hP, hK, hN⟩ := hv
  have hx := B.exec
  have hb := B.bytes
  have hr := B.returns
  have hts := atoms_spec (ws := wT_firstThatSaves) B.pre
  have hown : s.vm.findClass NT = some m.cls := findClass_of_methodNamed B.named
  have hlocks := B.notSynchronized
  have hl := lv_entry ([.ref h0]) (n := 2) (Nat.le_of_ble_eq_true rfl)
  rw [lg_entry_eq]
  generalize (lg_sl ([.ref h0]) ++ List.replicate (2 - (lg_sl ([.ref h0])).length) Slot.unset).toArray = ls at hl ⊢
  have hl : lv_has ls 2 [(0, .ref h0)] := hl
  have LP2 : ∀ (dd : Nat) (k : Nat) (ls : Array Slot), ww - k < dd → (1 ≤ k ∧ k ≤ 65) → lv_has ls 2 [(0, .ref h0), (1, .int (nI k))] → W p l e (headSpec wT_firstThatSaves (rmL 0 0 0)).room s m ([.ref h0] : List Value).toArray below meth c s.heap [] 0 0 (MQ below (vp_Si (fun r : Int32 => ∃ o : Option Nat, r = fdI o ∧ ∀ b, o = some b → b < ww)) ([.ref h0] : List Value).toArray s 0 0 (fun _ => False)) (F0 m 2 ls []) := by
    intro dd
    induction dd with
    | zero =>
      intro k ls hm
      exact absurd hm (Nat.not_lt_zero _)
    | succ dd ihLP2 =>
      intro k ls hm hk hl
      refine lv_iload_n hx hb dT_firstThatSaves_2 rfl (lv_at hl 1 rfl) ?_
      refine lv_aload_n hx hb dT_firstThatSaves_3 rfl (lv_at hl 0 rfl) ?_
      refine va_get (D := D) (cl := rcl) (ci := 2) (v := .int (nI ww)) (C := NT) (T := TT) (N := 6) hx hb hts (fun w h => gw_t w (uwT w h)) hown hK hP 0 rfl rfl 3 (by decide) (hts _ (gw_t _ hw118)) (fun _ h9 => h9) rfl dT_firstThatSaves_4 ?_
      refine lv_icmp_ge (tgt := 31) hx hb dT_firstThatSaves_7 (by decide) (fun c7 => ?_) (fun c7 => ?_)
      · have c7 : ww ≤ k := (nI_leI (a := ww) (b := k) (by omega) (by omega)).mp c7
        refine lv_iconst (v := -1) hx hb dT_firstThatSaves_31 (by decide) ?_
        exact W.iret (v := (-1)) hx hb hr (fun t ht9 hW9 => ⟨_, rfl, ⟨none, rfl, fun b h => by cases h⟩, ht9⟩) t_nil dT_firstThatSaves_32
      · have c7 : ¬ ww ≤ k := mt (nI_leI (a := ww) (b := k) (by omega) (by omega)).mpr c7
        refine lv_aload_n hx hb dT_firstThatSaves_10 rfl (lv_at hl 0 rfl) ?_
        refine va_get (D := D) (cl := rcl) (ci := 2) (v := .ref ta1) (C := NT) (T := TT) (N := 6) hx hb hts (fun w h => gw_t w (uwT w h)) hown hK hP 0 rfl rfl 4 (by decide) (hts _ (gw_t _ hw119)) (fun _ h9 => h9) rfl dT_firstThatSaves_11 ?_
        refine lv_iconst (v := 0) hx hb dT_firstThatSaves_14 (by decide) ?_
        refine ra_a (k := 0) (q := tar 0) hx hb hK hP 2 4 rfl rfl (by omega) (by omega) (rfl) dT_firstThatSaves_15 ?_
        refine lv_iload_n hx hb dT_firstThatSaves_16 rfl (lv_at hl 1 rfl) ?_
        refine ra_l (k := k) hx hb hK hP (4 + 0) 1 (gr_get (X := ([(h0, .inr (2, [.ref ta0, .long dn, .int (nI hh), .int (nI ww), .ref ta1, .ref ta2])), (ta0, .inl (kI, 63, .inl voc)), (ta1, .inl (kH, 8, .inr (.inr (.inr (.inr (fun i => some (tar i))))))), (ta2, .inl (kI, 8, .inl bz))] : va_W)) (by omega)) rfl (by omega) (by omega) dT_firstThatSaves_17 ?_
        refine lv_lconst (v := 0) hx hb dT_firstThatSaves_18 (by decide) ?_
        refine W.lcmp hx hb dT_firstThatSaves_19 ?_
        refine lv_if_ge (tgt := 25) hx hb dT_firstThatSaves_20 (by decide) (fun c20 => ?_) (fun c20 => ?_)
        · have c20 := (lg_cmp_ge (M 0 k) 0).mp c20
          refine lv_iinc (v := nI (k + 1)) (lv' := [(1, .int (nI (k + 1))), (0, .ref h0)]) hx hb dT_firstThatSaves_25 hl (k := 1) rfl (nI_add k 1) (by decide) rfl (fun ls hl => ?_)
          refine lv_goto (tgt := 2) hx hb dT_firstThatSaves_28 (by decide) ?_
          exact ihLP2 (k + 1) ls (by omega) (by omega) (lv_sub hl [1, 0] rfl)
        · have c20 := mt (lg_cmp_ge (M 0 k) 0).mpr c20
          refine lv_iload_n hx hb dT_firstThatSaves_23 rfl (lv_at hl 1 rfl) ?_
          exact W.iret (v := nI k) hx hb hr (fun t ht9 hW9 => ⟨_, rfl, ⟨some k, rfl, fun b h => by cases h; omega⟩, ht9⟩) t_nil dT_firstThatSaves_24
  refine lv_iconst (v := 1) hx hb dT_firstThatSaves_0 (by decide) ?_
  refine lv_istore_n (lv' := [(1, .int 1), (0, .ref h0)]) hx hb dT_firstThatSaves_1 rfl hl (by decide) rfl (fun ls hl => ?_)
  exact LP2 _ 1 ls (Nat.lt_succ_self _) (by omega) (lv_sub hl [1, 0] rfl)

set_option maxHeartbeats 4000000 in
set_option maxRecDepth 100000 in
theorem cT_isTighter (l : Launch) (D : va_G) (kI kJ kZ kG kH : ClassId) (h0 : Nat) (ta0 : Nat) (ta1 : Nat) (ta2 : Nat) (tar : Nat → Nat) (dn : Int64) (hh : Nat) (ww : Nat) (voc : Nat → Int32) (M : Nat → Nat → Int64) (bz : Nat → Int32) (a : Nat) (b : Nat) (en : Nat) (ha : a < 8) (hb8 : b < 8) (hen : en < 65) : Met l yT_isTighter wT_isTighter (rmL 0 0 0) (va_Pc [.ref h0, .int (nI a), .int (nI b), .int (nI en)] (fun U => wd D kI kJ kZ kG kH (([(h0, .inr (2, [.ref ta0, .long dn, .int (nI hh), .int (nI ww), .ref ta1, .ref ta2])), (ta0, .inl (kI, 63, .inl voc)), (ta1, .inl (kH, 8, .inr (.inr (.inr (.inr (fun i => some (tar i))))))), (ta2, .inl (kI, 8, .inl bz))] : va_W) ++ (gJ kJ 8 65 tar M ++ ([] : va_W))) U)) (vp_Si (fun r : Int32 => r = 0 ∨ r = 1)) 0 0 (fun _ => False) := by
  refine Met.ofW (cc := bT_isTighter) (maxL := 8) (ret := (some .boolean)) (by decide) rfl ?_
  intro p e s m args below meth c s₁ B hml hv
  obtain ⟨rfl, hP, hK, hN⟩ := hv
  have hx := B.exec
  have hb := B.bytes
  have hr := B.returns
  have hts := atoms_spec (ws := wT_isTighter) B.pre
  have hown : s.vm.findClass NT = some m.cls := findClass_of_methodNamed B.named
  have hlocks := B.notSynchronized
  have hl := lv_entry ([.ref h0, .int (nI a), .int (nI b), .int (nI en)]) (n := 8) (Nat.le_of_ble_eq_true rfl)
  rw [lg_entry_eq]
  generalize (lg_sl ([.ref h0, .int (nI a), .int (nI b), .int (nI en)]) ++ List.replicate (8 - (lg_sl ([.ref h0, .int (nI a), .int (nI b), .int (nI en)])).length) Slot.unset).toArray = ls at hl ⊢
  have hl : lv_has ls 8 [(0, .ref h0), (1, .int (nI a)), (2, .int (nI b)), (3, .int (nI en))] := hl
  refine lv_aload_n hx hb dT_isTighter_0 rfl (lv_at hl 0 rfl) ?_
  refine va_get (D := D) (cl := rcl) (ci := 2) (v := .ref ta1) (C := NT) (T := TT) (N := 6) hx hb hts (fun w h => gw_t w (uwT w h)) hown hK hP 0 rfl rfl 4 (by decide) (hts _ (gw_t _ hw119)) (fun _ h9 => h9) rfl dT_isTighter_1 ?_
  refine lv_iload_n hx hb dT_isTighter_4 rfl (lv_at hl 1 rfl) ?_
  refine ra_a (k := a) (q := tar a) hx hb hK hP 2 4 rfl rfl (by omega) (by omega) (rfl) dT_isTighter_5 ?_
  refine lv_iconst (v := 0) hx hb dT_isTighter_6 (by decide) ?_
  refine ra_l (k := 0) hx hb hK hP (4 + a) 1 (gr_get (X := ([(h0, .inr (2, [.ref ta0, .long dn, .int (nI hh), .int (nI ww), .ref ta1, .ref ta2])), (ta0, .inl (kI, 63, .inl voc)), (ta1, .inl (kH, 8, .inr (.inr (.inr (.inr (fun i => some (tar i))))))), (ta2, .inl (kI, 8, .inl bz))] : va_W)) (by omega)) rfl (by omega) (by omega) dT_isTighter_7 ?_
  refine lv_aload_n hx hb dT_isTighter_8 rfl (lv_at hl 0 rfl) ?_
  refine va_get (D := D) (cl := rcl) (ci := 2) (v := .ref ta1) (C := NT) (T := TT) (N := 6) hx hb hts (fun w h => gw_t w (uwT w h)) hown hK hP 0 rfl rfl 4 (by decide) (hts _ (gw_t _ hw119)) (fun _ h9 => h9) rfl dT_isTighter_9 ?_
  refine lv_iload_n hx hb dT_isTighter_12 rfl (lv_at hl 2 rfl) ?_
  refine ra_a (k := b) (q := tar b) hx hb hK hP 2 4 rfl rfl (by omega) (by omega) (rfl) dT_isTighter_13 ?_
  refine lv_iload_n hx hb dT_isTighter_14 rfl (lv_at hl 3 rfl) ?_
  refine ra_l (k := en) hx hb hK hP (4 + b) 1 (gr_get (X := ([(h0, .inr (2, [.ref ta0, .long dn, .int (nI hh), .int (nI ww), .ref ta1, .ref ta2])), (ta0, .inl (kI, 63, .inl voc)), (ta1, .inl (kH, 8, .inr (.inr (.inr (.inr (fun i => some (tar i))))))), (ta2, .inl (kI, 8, .inl bz))] : va_W)) (by omega)) rfl (by omega) (by omega) dT_isTighter_15 ?_
  refine lv_lmul hx hb dT_isTighter_16 ?_
  refine lv_topl (fun v1 ev1 => ?_)
  refine lv_lstore (lv' := [(4, .long v1), (0, .ref h0), (1, .int (nI a)), (2, .int (nI b)), (3, .int (nI en))]) hx hb dT_isTighter_17 hl (by decide) rfl (fun ls hl => ?_)
  refine lv_aload_n hx hb dT_isTighter_19 rfl (lv_at hl 1 rfl) ?_
  refine va_get (D := D) (cl := rcl) (ci := 2) (v := .ref ta1) (C := NT) (T := TT) (N := 6) hx hb hts (fun w h => gw_t w (uwT w h)) hown hK hP 0 rfl rfl 4 (by decide) (hts _ (gw_t _ hw119)) (fun _ h9 => h9) rfl dT_isTighter_20 ?_
  refine lv_iload_n hx hb dT_isTighter_23 rfl (lv_at hl 3 rfl) ?_
  refine ra_a (k := b) (q := tar b) hx hb hK hP 2 4 rfl rfl (by omega) (by omega) (rfl) dT_isTighter_24 ?_
  refine lv_iconst (v := 0) hx hb dT_isTighter_25 (by decide) ?_
  refine ra_l (k := 0) hx hb hK hP (4 + b) 1 (gr_get (X := ([(h0, .inr (2, [.ref ta0, .long dn, .int (nI hh), .int (nI ww), .ref ta1, .ref ta2])), (ta0, .inl (kI, 63, .inl voc)), (ta1, .inl (kH, 8, .inr (.inr (.inr (.inr (fun i => some (tar i))))))), (ta2, .inl (kI, 8, .inl bz))] : va_W)) (by omega)) rfl (by omega) (by omega) dT_isTighter_26 ?_
  refine lv_aload_n hx hb dT_isTighter_27 rfl (lv_at hl 1 rfl) ?_
  refine va_get (D := D) (cl := rcl) (ci := 2) (v := .ref ta1) (C := NT) (T := TT) (N := 6) hx hb hts (fun w h => gw_t w (uwT w h)) hown hK hP 0 rfl rfl 4 (by decide) (hts _ (gw_t _ hw119)) (fun _ h9 => h9) rfl dT_isTighter_28 ?_
  refine lv_iload_n hx hb dT_isTighter_31 rfl (lv_at hl 2 rfl) ?_
  refine ra_a (k := a) (q := tar a) hx hb hK hP 2 4 rfl rfl (by omega) (by omega) (rfl) dT_isTighter_32 ?_
  refine lv_iload_n hx hb dT_isTighter_33 rfl (lv_at hl 4 rfl) ?_
  refine ra_l (k := en) hx hb hK hP (4 + a) 1 (gr_get (X := ([(h0, .inr (2, [.ref ta0, .long dn, .int (nI hh), .int (nI ww), .ref ta1, .ref ta2])), (ta0, .inl (kI, 63, .inl voc)), (ta1, .inl (kH, 8, .inr (.inr (.inr (.inr (fun i => some (tar i))))))), (ta2, .inl (kI, 8, .inl bz))] : va_W)) (by omega)) rfl (by omega) (by omega) dT_isTighter_34 ?_
  refine lv_lmul hx hb dT_isTighter_35 ?_
  refine lv_topl (fun v2 ev2 => ?_)
  refine lv_lstore (lv' := [(6, .long v2), (4, .long v1), (0, .ref h0), (1, .int (nI a)), (2, .int (nI b)), (3, .int (nI en))]) hx hb dT_isTighter_36 hl (by decide) rfl (fun ls hl => ?_)
  refine lv_lload hx hb dT_isTighter_38 (lv_at hl 1 rfl) ?_
  refine lv_lload hx hb dT_isTighter_40 (lv_at hl 0 rfl) ?_
  refine W.lcmp hx hb dT_isTighter_42 ?_
  refine lv_if_lt (tgt := 69) hx hb dT_isTighter_43 (by decide) (fun c43 => ?_) (fun c43 => ?_)
  · have c43 := (lg_cmp_lt v1 v2).mp c43
    refine lv_iconst (v := 1) hx hb dT_isTighter_69 (by decide) ?_
    refine lv_goto (tgt := 74) hx hb dT_isTighter_70 (by decide) ?_
    exact W.zret (v := 1) (ty := .boolean) hx hb hr (by decide) (fun t ht9 hW9 => ⟨_, rfl, Or.inr rfl, ht9⟩) t_nil dT_isTighter_74
  · have c43 := mt (lg_cmp_lt v1 v2).mpr c43
    refine lv_lload hx hb dT_isTighter_46 (lv_at hl 1 rfl) ?_
    refine lv_lload hx hb dT_isTighter_48 (lv_at hl 0 rfl) ?_
    refine W.lcmp hx hb dT_isTighter_50 ?_
    refine lv_if_ne (tgt := 73) hx hb dT_isTighter_51 (by decide) (fun c51 => ?_) (fun c51 => ?_)
    · have c51 := mt (lg_cmp_eq v1 v2).mpr c51
      refine lv_iconst (v := 0) hx hb dT_isTighter_73 (by decide) ?_
      exact W.zret (v := 0) (ty := .boolean) hx hb hr (by decide) (fun t ht9 hW9 => ⟨_, rfl, Or.inl rfl, ht9⟩) t_nil dT_isTighter_74
    · have c51 := (lg_cmp_eq v1 v2).mp c51
      refine lv_aload_n hx hb dT_isTighter_54 rfl (lv_at hl 2 rfl) ?_
      refine va_get (D := D) (cl := rcl) (ci := 2) (v := .ref ta2) (C := NT) (T := TT) (N := 6) hx hb hts (fun w h => gw_t w (uwT w h)) hown hK hP 0 rfl rfl 5 (by decide) (hts _ (gw_t _ hw120)) (fun _ h9 => h9) rfl dT_isTighter_55 ?_
      refine lv_iload_n hx hb dT_isTighter_58 rfl (lv_at hl 3 rfl) ?_
      refine ra_i (k := a) hx hb hK hP 3 0 rfl rfl (by omega) (by omega) dT_isTighter_59 ?_
      refine lv_aload_n hx hb dT_isTighter_60 rfl (lv_at hl 2 rfl) ?_
      refine va_get (D := D) (cl := rcl) (ci := 2) (v := .ref ta2) (C := NT) (T := TT) (N := 6) hx hb hts (fun w h => gw_t w (uwT w h)) hown hK hP 0 rfl rfl 5 (by decide) (hts _ (gw_t _ hw120)) (fun _ h9 => h9) rfl dT_isTighter_61 ?_
      refine lv_iload_n hx hb dT_isTighter_64 rfl (lv_at hl 4 rfl) ?_
      refine ra_i (k := b) hx hb hK hP 3 0 rfl rfl (by omega) (by omega) dT_isTighter_65 ?_
      refine lv_icmp_ge (tgt := 73) hx hb dT_isTighter_66 (by decide) (fun c66 => ?_) (fun c66 => ?_)
      · refine lv_iconst (v := 0) hx hb dT_isTighter_73 (by decide) ?_
        exact W.zret (v := 0) (ty := .boolean) hx hb hr (by decide) (fun t ht9 hW9 => ⟨_, rfl, Or.inl rfl, ht9⟩) t_nil dT_isTighter_74
      · refine lv_iconst (v := 1) hx hb dT_isTighter_69 (by decide) ?_
        refine lv_goto (tgt := 74) hx hb dT_isTighter_70 (by decide) ?_
        exact W.zret (v := 1) (ty := .boolean) hx hb hr (by decide) (fun t ht9 hW9 => ⟨_, rfl, Or.inr rfl, ht9⟩) t_nil dT_isTighter_74

set_option maxHeartbeats 4000000 in
set_option maxRecDepth 100000 in
theorem cT_tightestRow (l : Launch) (D : va_G) (kI kJ kZ kG kH : ClassId) (h0 : Nat) (ta0 : Nat) (ta1 : Nat) (ta2 : Nat) (tar : Nat → Nat) (dn : Int64) (hh : Nat) (ww : Nat) (voc : Nat → Int32) (M : Nat → Nat → Int64) (bz : Nat → Int32) (en : Nat) (hh8 : hh ≤ 8) (hw65 : ww ≤ 65) (hen : en < 65) : Met l yT_tightestRow wT_tightestRow (rmL 1 0 0) (va_Pc [.ref h0, .int (nI en)] (fun U => wd D kI kJ kZ kG kH (([(h0, .inr (2, [.ref ta0, .long dn, .int (nI hh), .int (nI ww), .ref ta1, .ref ta2])), (ta0, .inl (kI, 63, .inl voc)), (ta1, .inl (kH, 8, .inr (.inr (.inr (.inr (fun i => some (tar i))))))), (ta2, .inl (kI, 8, .inl bz))] : va_W) ++ (gJ kJ 8 65 tar M ++ ([] : va_W))) U)) (vp_Si (fun r : Int32 => ∃ o : Option Nat, r = fdI o ∧ ∀ b, o = some b → b < hh)) 0 0 (fun _ => False) := by
  refine Met.ofW (cc := bT_tightestRow) (maxL := 4) (ret := (some .int)) (by decide) rfl ?_
  intro p e s m args below meth c s₁ B hml hv
  obtain ⟨rfl, hP, hK, hN⟩ := hv
  have hx := B.exec
  have hb := B.bytes
  have hr := B.returns
  have hts := atoms_spec (ws := wT_tightestRow) B.pre
  have hown : s.vm.findClass NT = some m.cls := findClass_of_methodNamed B.named
  have hlocks := B.notSynchronized
  have hl := lv_entry ([.ref h0, .int (nI en)]) (n := 4) (Nat.le_of_ble_eq_true rfl)
  rw [lg_entry_eq]
  generalize (lg_sl ([.ref h0, .int (nI en)]) ++ List.replicate (4 - (lg_sl ([.ref h0, .int (nI en)])).length) Slot.unset).toArray = ls at hl ⊢
  have hl : lv_has ls 4 [(0, .ref h0), (1, .int (nI en))] := hl
  have LP4 : ∀ (dd : Nat) (k : Nat) (bt : Option Nat) (ls : Array Slot), hh - k < dd → (1 ≤ k ∧ k ≤ 8) → (∀ b, bt = some b → b < hh) → lv_has ls 4 [(0, .ref h0), (1, .int (nI en)), (2, .int (fdI bt)), (3, .int (nI k))] → W p l e (headSpec wT_tightestRow (rmL 1 0 0)).room s m ([.ref h0, .int (nI en)] : List Value).toArray below meth c s.heap [] 0 0 (MQ below (vp_Si (fun r : Int32 => ∃ o : Option Nat, r = fdI o ∧ ∀ b, o = some b → b < hh)) ([.ref h0, .int (nI en)] : List Value).toArray s 0 0 (fun _ => False)) (F0 m 4 ls []) := by
    intro dd
    induction dd with
    | zero =>
      intro k bt ls hm
      exact absurd hm (Nat.not_lt_zero _)
    | succ dd ihLP4 =>
      intro k bt ls hm hk hbt hl
      refine lv_iload_n hx hb dT_tightestRow_4 rfl (lv_at hl 3 rfl) ?_
      refine lv_aload_n hx hb dT_tightestRow_5 rfl (lv_at hl 0 rfl) ?_
      refine va_get (D := D) (cl := rcl) (ci := 2) (v := .int (nI hh)) (C := NT) (T := TT) (N := 6) hx hb hts (fun w h => gw_t w (uwT w h)) hown hK hP 0 rfl rfl 2 (by decide) (hts _ (gw_t _ hw117)) (fun _ h9 => h9) rfl dT_tightestRow_6 ?_
      refine lv_icmp_ge (tgt := 48) hx hb dT_tightestRow_9 (by decide) (fun c9 => ?_) (fun c9 => ?_)
      · have c9 : hh ≤ k := (nI_leI (a := hh) (b := k) (by omega) (by omega)).mp c9
        refine lv_iload_n hx hb dT_tightestRow_48 rfl (lv_at hl 2 rfl) ?_
        exact W.iret (v := fdI bt) hx hb hr (fun t ht9 hW9 => ⟨_, rfl, ⟨bt, rfl, hbt⟩, ht9⟩) t_nil dT_tightestRow_49
      · have c9 : ¬ hh ≤ k := mt (nI_leI (a := hh) (b := k) (by omega) (by omega)).mpr c9
        refine lv_aload_n hx hb dT_tightestRow_12 rfl (lv_at hl 0 rfl) ?_
        refine va_get (D := D) (cl := rcl) (ci := 2) (v := .ref ta1) (C := NT) (T := TT) (N := 6) hx hb hts (fun w h => gw_t w (uwT w h)) hown hK hP 0 rfl rfl 4 (by decide) (hts _ (gw_t _ hw119)) (fun _ h9 => h9) rfl dT_tightestRow_13 ?_
        refine lv_iload_n hx hb dT_tightestRow_16 rfl (lv_at hl 3 rfl) ?_
        refine ra_a (k := k) (q := tar k) hx hb hK hP 2 4 rfl rfl (by omega) (by omega) (rfl) dT_tightestRow_17 ?_
        refine lv_iload_n hx hb dT_tightestRow_18 rfl (lv_at hl 1 rfl) ?_
        refine ra_l (k := en) hx hb hK hP (4 + k) 1 (gr_get (X := ([(h0, .inr (2, [.ref ta0, .long dn, .int (nI hh), .int (nI ww), .ref ta1, .ref ta2])), (ta0, .inl (kI, 63, .inl voc)), (ta1, .inl (kH, 8, .inr (.inr (.inr (.inr (fun i => some (tar i))))))), (ta2, .inl (kI, 8, .inl bz))] : va_W)) (by omega)) rfl (by omega) (by omega) dT_tightestRow_19 ?_
        refine lv_lconst (v := 0) hx hb dT_tightestRow_20 (by decide) ?_
        refine W.lcmp hx hb dT_tightestRow_21 ?_
        refine lv_if_le (tgt := 42) hx hb dT_tightestRow_22 (by decide) (fun c22 => ?_) (fun c22 => ?_)
        · have c22 := (lg_cmp_le (M k en) 0).mp c22
          refine lv_iinc (v := nI (k + 1)) (lv' := [(3, .int (nI (k + 1))), (0, .ref h0), (1, .int (nI en)), (2, .int (fdI bt))]) hx hb dT_tightestRow_42 hl (k := 3) rfl (nI_add k 1) (by decide) rfl (fun ls hl => ?_)
          refine lv_goto (tgt := 4) hx hb dT_tightestRow_45 (by decide) ?_
          exact ihLP4 (k + 1) bt ls (by omega) (by omega) hbt (lv_sub hl [1, 2, 3, 0] rfl)
        · have c22 := mt (lg_cmp_le (M k en) 0).mpr c22
          refine lv_iload_n hx hb dT_tightestRow_25 rfl (lv_at hl 2 rfl) ?_
          refine lv_iconst (v := -1) hx hb dT_tightestRow_26 (by decide) ?_
          refine lv_icmp_eq (tgt := 40) hx hb dT_tightestRow_27 (by decide) (fun c27 => ?_) (fun c27 => ?_)
          · refine lv_iload_n hx hb dT_tightestRow_40 rfl (lv_at hl 3 rfl) ?_
            refine lv_istore_n (lv' := [(2, .int (nI k)), (0, .ref h0), (1, .int (nI en)), (3, .int (nI k))]) hx hb dT_tightestRow_41 rfl hl (by decide) rfl (fun ls hl => ?_)
            refine lv_iinc (v := nI (k + 1)) (lv' := [(3, .int (nI (k + 1))), (2, .int (nI k)), (0, .ref h0), (1, .int (nI en))]) hx hb dT_tightestRow_42 hl (k := 3) rfl (nI_add k 1) (by decide) rfl (fun ls hl => ?_)
            refine lv_goto (tgt := 4) hx hb dT_tightestRow_45 (by decide) ?_
            exact ihLP4 (k + 1) (some k) ls (by omega) (by omega) (fun b h => by cases h; omega) (lv_sub hl [2, 3, 1, 0] rfl)
          · obtain ⟨f, rfl⟩ := fd_ne c27
            have hf9 := hbt f rfl
            refine lv_aload_n hx hb dT_tightestRow_30 rfl (lv_at hl 0 rfl) ?_
            refine lv_iload_n hx hb dT_tightestRow_31 rfl (lv_at hl 3 rfl) ?_
            refine lv_iload_n hx hb dT_tightestRow_32 rfl (lv_at hl 2 rfl) ?_
            refine lv_iload_n hx hb dT_tightestRow_33 rfl (lv_at hl 1 rfl) ?_
            refine vp_callSi (W.runV (C := NT) (As := [.int (nI k), .int (nI f), .int (nI en)]) (rest := []) ⟨hx, hb, hml, hown, hts⟩ (cT_isTighter l D kI kJ kZ kG kH h0 ta0 ta1 ta2 tar dn hh ww voc M bz k f en (by omega) (by omega) hen) ⟨cB 3 hts hw368 hw6 hw365 (by decide +kernel) ⟨Nat.le_of_ble_eq_true rfl, Nat.le_of_ble_eq_true rfl⟩ rfl rfl, hts _ (gw_t _ hw367), hts _ (gw_t _ hs6)⟩ ⟨fun a U g mk q => ⟨q.1, q.2.calling g mk a⟩, va_recv hK hP (ci := 2) (q0 := 0) rfl rfl, fun U hU hW => ⟨rfl, wd.use hP hK hN hU hW⟩⟩ rfl rfl hl.1 rfl (lv_room (Nat.le_of_ble_eq_true rfl)) dT_tightestRow_34 ⟨Nat.le_of_ble_eq_true rfl, Nat.le_of_ble_eq_true rfl⟩) (fun r34 hr34 => ?_)
            refine lv_if_eq (tgt := 42) hx hb dT_tightestRow_37 (by decide) (fun c37 => ?_) (fun c37 => ?_)
            · refine lv_iinc (v := nI (k + 1)) (lv' := [(3, .int (nI (k + 1))), (0, .ref h0), (1, .int (nI en)), (2, .int (nI f))]) hx hb dT_tightestRow_42 hl (k := 3) rfl (nI_add k 1) (by decide) rfl (fun ls hl => ?_)
              refine lv_goto (tgt := 4) hx hb dT_tightestRow_45 (by decide) ?_
              exact ihLP4 (k + 1) (some f) ls (by omega) (by omega) hbt (lv_sub hl [1, 2, 3, 0] rfl)
            · refine lv_iload_n hx hb dT_tightestRow_40 rfl (lv_at hl 3 rfl) ?_
              refine lv_istore_n (lv' := [(2, .int (nI k)), (0, .ref h0), (1, .int (nI en)), (3, .int (nI k))]) hx hb dT_tightestRow_41 rfl hl (by decide) rfl (fun ls hl => ?_)
              refine lv_iinc (v := nI (k + 1)) (lv' := [(3, .int (nI (k + 1))), (2, .int (nI k)), (0, .ref h0), (1, .int (nI en))]) hx hb dT_tightestRow_42 hl (k := 3) rfl (nI_add k 1) (by decide) rfl (fun ls hl => ?_)
              refine lv_goto (tgt := 4) hx hb dT_tightestRow_45 (by decide) ?_
              exact ihLP4 (k + 1) (some k) ls (by omega) (by omega) (fun b h => by cases h; omega) (lv_sub hl [2, 3, 1, 0] rfl)
  refine lv_iconst (v := -1) hx hb dT_tightestRow_0 (by decide) ?_
  refine lv_istore_n (lv' := [(2, .int (-1)), (0, .ref h0), (1, .int (nI en))]) hx hb dT_tightestRow_1 rfl hl (by decide) rfl (fun ls hl => ?_)
  refine lv_iconst (v := 1) hx hb dT_tightestRow_2 (by decide) ?_
  refine lv_istore_n (lv' := [(3, .int 1), (2, .int (-1)), (0, .ref h0), (1, .int (nI en))]) hx hb dT_tightestRow_3 rfl hl (by decide) rfl (fun ls hl => ?_)
  exact LP4 _ 1 none ls (Nat.lt_succ_self _) (by omega) (fun b h => by cases h) (lv_sub hl [2, 3, 1, 0] rfl)

set_option maxHeartbeats 4000000 in
set_option maxRecDepth 100000 in
theorem cT_eliminate (l : Launch) (D : va_G) (kI kJ kZ kG kH : ClassId) (h0 : Nat) (ta0 : Nat) (ta1 : Nat) (ta2 : Nat) (tar : Nat → Nat) (dn : Int64) (hh : Nat) (ww : Nat) (voc : Nat → Int32) (M : Nat → Nat → Int64) (bz : Nat → Int32) (a : Nat) (b : Nat) (en : Nat) (hh8 : hh ≤ 8) (hw65 : ww ≤ 65) (ha : a < 8) (hb8 : b < 8) (hen : en < 65) (hd0 : ¬ dn = 0) (sz : Nat) : Met l yT_eliminate wT_eliminate (rmL 0 0 0) (va_Pc [.ref h0, .int (nI a), .int (nI b), .int (nI en)] (fun U => U.heap.size = sz ∧ wd D kI kJ kZ kG kH (([(h0, .inr (2, [.ref ta0, .long dn, .int (nI hh), .int (nI ww), .ref ta1, .ref ta2])), (ta0, .inl (kI, 63, .inl voc)), (ta1, .inl (kH, 8, .inr (.inr (.inr (.inr (fun i => some (tar i))))))), (ta2, .inl (kI, 8, .inl bz))] : va_W) ++ (gJ kJ 8 65 tar M ++ ([] : va_W))) U ∧ va_D (fun _ => True) (([(h0, .inr (2, [.ref ta0, .long dn, .int (nI hh), .int (nI ww), .ref ta1, .ref ta2])), (ta0, .inl (kI, 63, .inl voc)), (ta1, .inl (kH, 8, .inr (.inr (.inr (.inr (fun i => some (tar i))))))), (ta2, .inl (kI, 8, .inl bz))] : va_W) ++ (gJ kJ 8 65 tar M ++ ([] : va_W))))) (va_Qv (fun v9 : Nat → Nat → Int64 => True) (fun v9 t => va_P D rcl (([(h0, .inr (2, [.ref ta0, .long dn, .int (nI hh), .int (nI ww), .ref ta1, .ref ta2])), (ta0, .inl (kI, 63, .inl voc)), (ta1, .inl (kH, 8, .inr (.inr (.inr (.inr (fun i => some (tar i))))))), (ta2, .inl (kI, 8, .inl bz))] : va_W) ++ (gJ kJ 8 65 tar v9 ++ ([] : va_W))) t.heap ∧ va_K D rcl (TY kI kJ kZ kG kH) t ∧ va_D (va_A (([(h0, .inr (2, [.ref ta0, .long dn, .int (nI hh), .int (nI ww), .ref ta1, .ref ta2])), (ta0, .inl (kI, 63, .inl voc)), (ta1, .inl (kH, 8, .inr (.inr (.inr (.inr (fun i => some (tar i))))))), (ta2, .inl (kI, 8, .inl bz))] : va_W) ++ (gJ kJ 8 65 tar M ++ ([] : va_W))) sz) (([(h0, .inr (2, [.ref ta0, .long dn, .int (nI hh), .int (nI ww), .ref ta1, .ref ta2])), (ta0, .inl (kI, 63, .inl voc)), (ta1, .inl (kH, 8, .inr (.inr (.inr (.inr (fun i => some (tar i))))))), (ta2, .inl (kI, 8, .inl bz))] : va_W) ++ (gJ kJ 8 65 tar v9 ++ ([] : va_W)))) (va_A (([(h0, .inr (2, [.ref ta0, .long dn, .int (nI hh), .int (nI ww), .ref ta1, .ref ta2])), (ta0, .inl (kI, 63, .inl voc)), (ta1, .inl (kH, 8, .inr (.inr (.inr (.inr (fun i => some (tar i))))))), (ta2, .inl (kI, 8, .inl bz))] : va_W) ++ (gJ kJ 8 65 tar M ++ ([] : va_W))) sz)) 0 0 (va_A (([(h0, .inr (2, [.ref ta0, .long dn, .int (nI hh), .int (nI ww), .ref ta1, .ref ta2])), (ta0, .inl (kI, 63, .inl voc)), (ta1, .inl (kH, 8, .inr (.inr (.inr (.inr (fun i => some (tar i))))))), (ta2, .inl (kI, 8, .inl bz))] : va_W) ++ (gJ kJ 8 65 tar M ++ ([] : va_W))) sz) := by
  refine Met.ofW (cc := bT_eliminate) (maxL := 11) (ret := none) (by decide) rfl ?_
  intro p e s m args below meth c s₁ B hml hv
  obtain ⟨rfl, hsz, ⟨hP, hK, hN⟩, hD0⟩ := hv
  have hx := B.exec
  have hb := B.bytes
  have hr := B.returns
  have hts := atoms_spec (ws := wT_eliminate) B.pre
  have hown : s.vm.findClass NT = some m.cls := findClass_of_methodNamed B.named
  have hlocks := B.notSynchronized
  subst hsz
  have hD := hD0.self (sz := s.heap.size)
  generalize hAe : va_A (([(h0, .inr (2, [.ref ta0, .long dn, .int (nI hh), .int (nI ww), .ref ta1, .ref ta2])), (ta0, .inl (kI, 63, .inl voc)), (ta1, .inl (kH, 8, .inr (.inr (.inr (.inr (fun i => some (tar i))))))), (ta2, .inl (kI, 8, .inl bz))] : va_W) ++ (gJ kJ 8 65 tar M ++ ([] : va_W))) s.heap.size = A at hD ⊢
  have hA : ∀ q : Nat, s.heap.size ≤ q → A q := fun q h => by rw [← hAe]; exact Or.inr h
  have hS : va_S A s.heap s.heap [] := va_S.rf
  have hP : va_P D rcl (([(h0, .inr (2, [.ref ta0, .long dn, .int (nI hh), .int (nI ww), .ref ta1, .ref ta2])), (ta0, .inl (kI, 63, .inl voc)), (ta1, .inl (kH, 8, .inr (.inr (.inr (.inr (fun i => some (tar i))))))), (ta2, .inl (kI, 8, .inl bz))] : va_W) ++ (gJ kJ 8 65 tar M ++ ([] : va_W))) s.heap := hP
  have hl := lv_entry ([.ref h0, .int (nI a), .int (nI b), .int (nI en)]) (n := 11) (Nat.le_of_ble_eq_true rfl)
  rw [lg_entry_eq]
  generalize (lg_sl ([.ref h0, .int (nI a), .int (nI b), .int (nI en)]) ++ List.replicate (11 - (lg_sl ([.ref h0, .int (nI a), .int (nI b), .int (nI en)])).length) Slot.unset).toArray = ls at hl ⊢
  have hl : lv_has ls 11 [(0, .ref h0), (1, .int (nI a)), (2, .int (nI b)), (3, .int (nI en))] := hl
  have LP41 : ∀ (dd : Nat) (k : Nat) (M9 : Nat → Nat → Int64) (H : Heap) (locs : List Loc) (ls : Array Slot), ww - k < dd → (k ≤ 65) → va_P D rcl (([(h0, .inr (2, [.ref ta0, .long dn, .int (nI hh), .int (nI ww), .ref ta1, .ref ta2])), (ta0, .inl (kI, 63, .inl voc)), (ta1, .inl (kH, 8, .inr (.inr (.inr (.inr (fun i => some (tar i))))))), (ta2, .inl (kI, 8, .inl bz))] : va_W) ++ (gJ kJ 8 65 tar M9 ++ ([] : va_W))) H → va_D A (([(h0, .inr (2, [.ref ta0, .long dn, .int (nI hh), .int (nI ww), .ref ta1, .ref ta2])), (ta0, .inl (kI, 63, .inl voc)), (ta1, .inl (kH, 8, .inr (.inr (.inr (.inr (fun i => some (tar i))))))), (ta2, .inl (kI, 8, .inl bz))] : va_W) ++ (gJ kJ 8 65 tar M9 ++ ([] : va_W))) → va_S A s.heap H locs → lv_has ls 11 [(0, .ref h0), (1, .int (nI a)), (2, .int (nI b)), (3, .int (nI en)), (4, .long (M b en)), (6, .long (M a en)), (8, .int (nI k))] → W p l e (headSpec wT_eliminate (rmL 0 0 0)).room s m ([.ref h0, .int (nI a), .int (nI b), .int (nI en)] : List Value).toArray below meth c H locs 0 0 (MQ below (va_Qv (fun v9 : Nat → Nat → Int64 => True) (fun v9 t => va_P D rcl (([(h0, .inr (2, [.ref ta0, .long dn, .int (nI hh), .int (nI ww), .ref ta1, .ref ta2])), (ta0, .inl (kI, 63, .inl voc)), (ta1, .inl (kH, 8, .inr (.inr (.inr (.inr (fun i => some (tar i))))))), (ta2, .inl (kI, 8, .inl bz))] : va_W) ++ (gJ kJ 8 65 tar v9 ++ ([] : va_W))) t.heap ∧ va_K D rcl (TY kI kJ kZ kG kH) t ∧ va_D A (([(h0, .inr (2, [.ref ta0, .long dn, .int (nI hh), .int (nI ww), .ref ta1, .ref ta2])), (ta0, .inl (kI, 63, .inl voc)), (ta1, .inl (kH, 8, .inr (.inr (.inr (.inr (fun i => some (tar i))))))), (ta2, .inl (kI, 8, .inl bz))] : va_W) ++ (gJ kJ 8 65 tar v9 ++ ([] : va_W)))) A) ([.ref h0, .int (nI a), .int (nI b), .int (nI en)] : List Value).toArray s 0 0 A) (F0 m 41 ls []) := by
    intro dd
    induction dd with
    | zero =>
      intro k M9 H locs ls hm
      exact absurd hm (Nat.not_lt_zero _)
    | succ dd ihLP41 =>
      intro k M9 H locs ls hm hk hP hD hS hl
      refine lv_iload hx hb dT_eliminate_41 (lv_at hl 6 rfl) ?_
      refine lv_aload_n hx hb dT_eliminate_43 rfl (lv_at hl 0 rfl) ?_
      refine va_get (D := D) (cl := rcl) (ci := 2) (v := .int (nI ww)) (C := NT) (T := TT) (N := 6) hx hb hts (fun w h => gw_t w (uwT w h)) hown hK hP 0 rfl rfl 3 (by decide) (hts _ (gw_t _ hw118)) (fun _ h9 => h9) rfl dT_eliminate_44 ?_
      refine lv_icmp_ge (tgt := 99) hx hb dT_eliminate_47 (by decide) (fun c47 => ?_) (fun c47 => ?_)
      · have c47 : ww ≤ k := (nI_leI (a := ww) (b := k) (by omega) (by omega)).mp c47
        refine W.widen (k := 0) (n := 0) (by omega) (by omega) ?_
        exact W.vret hx hb hr (fun t ht9 hW9 => ⟨⟨M9, rfl, trivial, by rw [ht9]; exact hP, va_K.moved hW9.alike hK, hD⟩, hS.F ht9⟩) hS.2.2 dT_eliminate_99
      · have c47 : ¬ ww ≤ k := mt (nI_leI (a := ww) (b := k) (by omega) (by omega)).mpr c47
        refine lv_aload_n hx hb dT_eliminate_50 rfl (lv_at hl 0 rfl) ?_
        refine va_get (D := D) (cl := rcl) (ci := 2) (v := .ref ta1) (C := NT) (T := TT) (N := 6) hx hb hts (fun w h => gw_t w (uwT w h)) hown hK hP 0 rfl rfl 4 (by decide) (hts _ (gw_t _ hw119)) (fun _ h9 => h9) rfl dT_eliminate_51 ?_
        refine lv_iload_n hx hb dT_eliminate_54 rfl (lv_at hl 1 rfl) ?_
        refine ra_a (k := a) (q := tar a) hx hb hK hP 2 4 rfl rfl (by omega) (by omega) (rfl) dT_eliminate_55 ?_
        refine lv_iload hx hb dT_eliminate_56 (lv_at hl 6 rfl) ?_
        refine ra_l (k := k) hx hb hK hP (4 + a) 1 (gr_get (X := ([(h0, .inr (2, [.ref ta0, .long dn, .int (nI hh), .int (nI ww), .ref ta1, .ref ta2])), (ta0, .inl (kI, 63, .inl voc)), (ta1, .inl (kH, 8, .inr (.inr (.inr (.inr (fun i => some (tar i))))))), (ta2, .inl (kI, 8, .inl bz))] : va_W)) (by omega)) rfl (by omega) (by omega) dT_eliminate_58 ?_
        refine lv_lload hx hb dT_eliminate_59 (lv_at hl 4 rfl) ?_
        refine lv_lmul hx hb dT_eliminate_61 ?_
        refine lv_topl (fun v1 ev1 => ?_)
        refine lv_lload hx hb dT_eliminate_62 (lv_at hl 5 rfl) ?_
        refine lv_aload_n hx hb dT_eliminate_64 rfl (lv_at hl 0 rfl) ?_
        refine va_get (D := D) (cl := rcl) (ci := 2) (v := .ref ta1) (C := NT) (T := TT) (N := 6) hx hb hts (fun w h => gw_t w (uwT w h)) hown hK hP 0 rfl rfl 4 (by decide) (hts _ (gw_t _ hw119)) (fun _ h9 => h9) rfl dT_eliminate_65 ?_
        refine lv_iload_n hx hb dT_eliminate_68 rfl (lv_at hl 2 rfl) ?_
        refine ra_a (k := b) (q := tar b) hx hb hK hP 2 4 rfl rfl (by omega) (by omega) (rfl) dT_eliminate_69 ?_
        refine lv_iload hx hb dT_eliminate_70 (lv_at hl 6 rfl) ?_
        refine ra_l (k := k) hx hb hK hP (4 + b) 1 (gr_get (X := ([(h0, .inr (2, [.ref ta0, .long dn, .int (nI hh), .int (nI ww), .ref ta1, .ref ta2])), (ta0, .inl (kI, 63, .inl voc)), (ta1, .inl (kH, 8, .inr (.inr (.inr (.inr (fun i => some (tar i))))))), (ta2, .inl (kI, 8, .inl bz))] : va_W)) (by omega)) rfl (by omega) (by omega) dT_eliminate_72 ?_
        refine lv_lmul hx hb dT_eliminate_73 ?_
        refine lv_topl (fun v2 ev2 => ?_)
        refine lv_lsub hx hb dT_eliminate_74 ?_
        refine lv_topl (fun v3 ev3 => ?_)
        refine lv_lstore (lv' := [(9, .long v3), (0, .ref h0), (1, .int (nI a)), (2, .int (nI b)), (3, .int (nI en)), (4, .long (M b en)), (6, .long (M a en)), (8, .int (nI k))]) hx hb dT_eliminate_75 hl (by decide) rfl (fun ls hl => ?_)
        refine lv_aload_n hx hb dT_eliminate_77 rfl (lv_at hl 1 rfl) ?_
        refine va_get (D := D) (cl := rcl) (ci := 2) (v := .ref ta1) (C := NT) (T := TT) (N := 6) hx hb hts (fun w h => gw_t w (uwT w h)) hown hK hP 0 rfl rfl 4 (by decide) (hts _ (gw_t _ hw119)) (fun _ h9 => h9) rfl dT_eliminate_78 ?_
        refine lv_iload_n hx hb dT_eliminate_81 rfl (lv_at hl 2 rfl) ?_
        refine ra_a (k := a) (q := tar a) hx hb hK hP 2 4 rfl rfl (by omega) (by omega) (rfl) dT_eliminate_82 ?_
        refine lv_iload hx hb dT_eliminate_83 (lv_at hl 7 rfl) ?_
        refine lv_lload hx hb dT_eliminate_85 (lv_at hl 0 rfl) ?_
        refine lv_aload_n hx hb dT_eliminate_87 rfl (lv_at hl 1 rfl) ?_
        refine va_get (D := D) (cl := rcl) (ci := 2) (v := .long dn) (C := NT) (T := TT) (N := 6) hx hb hts (fun w h => gw_t w (uwT w h)) hown hK hP 0 rfl rfl 1 (by decide) (hts _ (gw_t _ hw115)) (fun _ h9 => h9) rfl dT_eliminate_88 ?_
        refine lv_ldiv hx hb dT_eliminate_91 (hd0) ?_
        refine lv_topl (fun v4 ev4 => ?_)
        refine wa_l (k := k) hx hb hK hP hD hS (4 + a) 1 (gr_get (X := ([(h0, .inr (2, [.ref ta0, .long dn, .int (nI hh), .int (nI ww), .ref ta1, .ref ta2])), (ta0, .inl (kI, 63, .inl voc)), (ta1, .inl (kH, 8, .inr (.inr (.inr (.inr (fun i => some (tar i))))))), (ta2, .inl (kI, 8, .inl bz))] : va_W)) (by omega)) rfl (by omega) (by omega) dT_eliminate_92 (fun H locs hP hD hS => ?_)
        have eg := gJ_set (X := ([(h0, .inr (2, [.ref ta0, .long dn, .int (nI hh), .int (nI ww), .ref ta1, .ref ta2])), (ta0, .inl (kI, 63, .inl voc)), (ta1, .inl (kH, 8, .inr (.inr (.inr (.inr (fun i => some (tar i))))))), (ta2, .inl (kI, 8, .inl bz))] : va_W)) (Y := ([] : va_W)) (k := kJ) (n := 8) (w := 65) (r := tar) (M := M9) (i := a) (by omega) (vp_updL (M9 a) k v4)
        have hP := (congrArg (fun z => va_P D rcl z H) eg).mp hP
        have hD := (congrArg (fun z => va_D A z) eg).mp hD
        have hP : va_P D rcl (([(h0, .inr (2, [.ref ta0, .long dn, .int (nI hh), .int (nI ww), .ref ta1, .ref ta2])), (ta0, .inl (kI, 63, .inl voc)), (ta1, .inl (kH, 8, .inr (.inr (.inr (.inr (fun i => some (tar i))))))), (ta2, .inl (kI, 8, .inl bz))] : va_W) ++ (gJ kJ 8 65 tar (up2 M9 a (vp_updL (M9 a) k v4)) ++ ([] : va_W))) H := hP
        have hD : va_D A (([(h0, .inr (2, [.ref ta0, .long dn, .int (nI hh), .int (nI ww), .ref ta1, .ref ta2])), (ta0, .inl (kI, 63, .inl voc)), (ta1, .inl (kH, 8, .inr (.inr (.inr (.inr (fun i => some (tar i))))))), (ta2, .inl (kI, 8, .inl bz))] : va_W) ++ (gJ kJ 8 65 tar (up2 M9 a (vp_updL (M9 a) k v4)) ++ ([] : va_W))) := hD
        refine lv_iinc (v := nI (k + 1)) (lv' := [(8, .int (nI (k + 1))), (9, .long v3), (0, .ref h0), (1, .int (nI a)), (2, .int (nI b)), (3, .int (nI en)), (4, .long (M b en)), (6, .long (M a en))]) hx hb dT_eliminate_93 hl (k := 7) rfl (nI_add k 1) (by decide) rfl (fun ls hl => ?_)
        refine lv_goto (tgt := 41) hx hb dT_eliminate_96 (by decide) ?_
        exact ihLP41 (k + 1) (up2 M9 a (vp_updL (M9 a) k v4)) _ _ ls (by omega) (by omega) hP hD hS (lv_sub hl [2, 3, 4, 5, 6, 7, 0] rfl)
  refine lv_aload_n hx hb dT_eliminate_0 rfl (lv_at hl 0 rfl) ?_
  refine va_get (D := D) (cl := rcl) (ci := 2) (v := .ref ta1) (C := NT) (T := TT) (N := 6) hx hb hts (fun w h => gw_t w (uwT w h)) hown hK hP 0 rfl rfl 4 (by decide) (hts _ (gw_t _ hw119)) (fun _ h9 => h9) rfl dT_eliminate_1 ?_
  refine lv_iload_n hx hb dT_eliminate_4 rfl (lv_at hl 2 rfl) ?_
  refine ra_a (k := b) (q := tar b) hx hb hK hP 2 4 rfl rfl (by omega) (by omega) (rfl) dT_eliminate_5 ?_
  refine lv_iload_n hx hb dT_eliminate_6 rfl (lv_at hl 3 rfl) ?_
  refine ra_l (k := en) hx hb hK hP (4 + b) 1 (gr_get (X := ([(h0, .inr (2, [.ref ta0, .long dn, .int (nI hh), .int (nI ww), .ref ta1, .ref ta2])), (ta0, .inl (kI, 63, .inl voc)), (ta1, .inl (kH, 8, .inr (.inr (.inr (.inr (fun i => some (tar i))))))), (ta2, .inl (kI, 8, .inl bz))] : va_W)) (by omega)) rfl (by omega) (by omega) dT_eliminate_7 ?_
  refine lv_lstore (lv' := [(4, .long (M b en)), (0, .ref h0), (1, .int (nI a)), (2, .int (nI b)), (3, .int (nI en))]) hx hb dT_eliminate_8 hl (by decide) rfl (fun ls hl => ?_)
  refine lv_aload_n hx hb dT_eliminate_10 rfl (lv_at hl 1 rfl) ?_
  refine va_get (D := D) (cl := rcl) (ci := 2) (v := .ref ta1) (C := NT) (T := TT) (N := 6) hx hb hts (fun w h => gw_t w (uwT w h)) hown hK hP 0 rfl rfl 4 (by decide) (hts _ (gw_t _ hw119)) (fun _ h9 => h9) rfl dT_eliminate_11 ?_
  refine lv_iload_n hx hb dT_eliminate_14 rfl (lv_at hl 2 rfl) ?_
  refine ra_a (k := a) (q := tar a) hx hb hK hP 2 4 rfl rfl (by omega) (by omega) (rfl) dT_eliminate_15 ?_
  refine lv_iload_n hx hb dT_eliminate_16 rfl (lv_at hl 4 rfl) ?_
  refine ra_l (k := en) hx hb hK hP (4 + a) 1 (gr_get (X := ([(h0, .inr (2, [.ref ta0, .long dn, .int (nI hh), .int (nI ww), .ref ta1, .ref ta2])), (ta0, .inl (kI, 63, .inl voc)), (ta1, .inl (kH, 8, .inr (.inr (.inr (.inr (fun i => some (tar i))))))), (ta2, .inl (kI, 8, .inl bz))] : va_W)) (by omega)) rfl (by omega) (by omega) dT_eliminate_17 ?_
  refine lv_lstore (lv' := [(6, .long (M a en)), (4, .long (M b en)), (0, .ref h0), (1, .int (nI a)), (2, .int (nI b)), (3, .int (nI en))]) hx hb dT_eliminate_18 hl (by decide) rfl (fun ls hl => ?_)
  refine lv_lload hx hb dT_eliminate_20 (lv_at hl 0 rfl) ?_
  refine lv_lconst (v := 0) hx hb dT_eliminate_22 (by decide) ?_
  refine W.lcmp hx hb dT_eliminate_23 ?_
  refine lv_if_ne (tgt := 38) hx hb dT_eliminate_24 (by decide) (fun c24 => ?_) (fun c24 => ?_)
  · have c24 := mt (lg_cmp_eq (M a en) 0).mpr c24
    refine lv_iconst (v := 0) hx hb dT_eliminate_38 (by decide) ?_
    refine lv_istore (lv' := [(8, .int 0), (6, .long (M a en)), (4, .long (M b en)), (0, .ref h0), (1, .int (nI a)), (2, .int (nI b)), (3, .int (nI en))]) hx hb dT_eliminate_39 hl (by decide) rfl (fun ls hl => ?_)
    exact LP41 _ 0 M _ _ ls (Nat.lt_succ_self _) (by omega) hP hD hS (lv_sub hl [3, 4, 5, 6, 2, 1, 0] rfl)
  · have c24 := (lg_cmp_eq (M a en) 0).mp c24
    refine lv_lload hx hb dT_eliminate_27 (lv_at hl 1 rfl) ?_
    refine lv_aload_n hx hb dT_eliminate_29 rfl (lv_at hl 2 rfl) ?_
    refine va_get (D := D) (cl := rcl) (ci := 2) (v := .long dn) (C := NT) (T := TT) (N := 6) hx hb hts (fun w h => gw_t w (uwT w h)) hown hK hP 0 rfl rfl 1 (by decide) (hts _ (gw_t _ hw115)) (fun _ h9 => h9) rfl dT_eliminate_30 ?_
    refine W.lcmp hx hb dT_eliminate_33 ?_
    refine lv_if_ne (tgt := 38) hx hb dT_eliminate_34 (by decide) (fun c34 => ?_) (fun c34 => ?_)
    · have c34 := mt (lg_cmp_eq (M b en) dn).mpr c34
      refine lv_iconst (v := 0) hx hb dT_eliminate_38 (by decide) ?_
      refine lv_istore (lv' := [(8, .int 0), (6, .long (M a en)), (4, .long (M b en)), (0, .ref h0), (1, .int (nI a)), (2, .int (nI b)), (3, .int (nI en))]) hx hb dT_eliminate_39 hl (by decide) rfl (fun ls hl => ?_)
      exact LP41 _ 0 M _ _ ls (Nat.lt_succ_self _) (by omega) hP hD hS (lv_sub hl [3, 4, 5, 6, 2, 1, 0] rfl)
    · have c34 := (lg_cmp_eq (M b en) dn).mp c34
      refine W.widen (k := 0) (n := 0) (by omega) (by omega) ?_
      exact W.vret hx hb hr (fun t ht9 hW9 => ⟨⟨M, rfl, trivial, by rw [ht9]; exact hP, va_K.moved hW9.alike hK, hD⟩, hS.F ht9⟩) hS.2.2 dT_eliminate_37

set_option maxHeartbeats 4000000 in
set_option maxRecDepth 100000 in
theorem cT_pivot (l : Launch) (D : va_G) (kI kJ kZ kG kH : ClassId) (h0 : Nat) (ta0 : Nat) (ta1 : Nat) (ta2 : Nat) (tar : Nat → Nat) (dn : Int64) (hh : Nat) (ww : Nat) (voc : Nat → Int32) (M : Nat → Nat → Int64) (bz : Nat → Int32) (a : Nat) (en : Nat) (hh8 : hh ≤ 8) (hw65 : ww ≤ 65) (ha : a < 8) (hen : en < 65) (sz : Nat) : Met l yT_pivot wT_pivot (rmL 1 0 0) (va_Pc [.ref h0, .int (nI a), .int (nI en)] (fun U => U.heap.size = sz ∧ wd D kI kJ kZ kG kH (([(h0, .inr (2, [.ref ta0, .long dn, .int (nI hh), .int (nI ww), .ref ta1, .ref ta2])), (ta0, .inl (kI, 63, .inl voc)), (ta1, .inl (kH, 8, .inr (.inr (.inr (.inr (fun i => some (tar i))))))), (ta2, .inl (kI, 8, .inl bz))] : va_W) ++ (gJ kJ 8 65 tar M ++ ([] : va_W))) U ∧ va_D (fun _ => True) (([(h0, .inr (2, [.ref ta0, .long dn, .int (nI hh), .int (nI ww), .ref ta1, .ref ta2])), (ta0, .inl (kI, 63, .inl voc)), (ta1, .inl (kH, 8, .inr (.inr (.inr (.inr (fun i => some (tar i))))))), (ta2, .inl (kI, 8, .inl bz))] : va_W) ++ (gJ kJ 8 65 tar M ++ ([] : va_W))))) (va_Qv (fun v9 : Int64 × (Nat → Nat → Int64) × (Nat → Int32) => True) (fun v9 t => va_P D rcl (([(h0, .inr (2, [.ref ta0, .long v9.1, .int (nI hh), .int (nI ww), .ref ta1, .ref ta2])), (ta0, .inl (kI, 63, .inl voc)), (ta1, .inl (kH, 8, .inr (.inr (.inr (.inr (fun i => some (tar i))))))), (ta2, .inl (kI, 8, .inl v9.2.2))] : va_W) ++ (gJ kJ 8 65 tar v9.2.1 ++ ([] : va_W))) t.heap ∧ va_K D rcl (TY kI kJ kZ kG kH) t ∧ va_D (va_A (([(h0, .inr (2, [.ref ta0, .long dn, .int (nI hh), .int (nI ww), .ref ta1, .ref ta2])), (ta0, .inl (kI, 63, .inl voc)), (ta1, .inl (kH, 8, .inr (.inr (.inr (.inr (fun i => some (tar i))))))), (ta2, .inl (kI, 8, .inl bz))] : va_W) ++ (gJ kJ 8 65 tar M ++ ([] : va_W))) sz) (([(h0, .inr (2, [.ref ta0, .long v9.1, .int (nI hh), .int (nI ww), .ref ta1, .ref ta2])), (ta0, .inl (kI, 63, .inl voc)), (ta1, .inl (kH, 8, .inr (.inr (.inr (.inr (fun i => some (tar i))))))), (ta2, .inl (kI, 8, .inl v9.2.2))] : va_W) ++ (gJ kJ 8 65 tar v9.2.1 ++ ([] : va_W)))) (va_A (([(h0, .inr (2, [.ref ta0, .long dn, .int (nI hh), .int (nI ww), .ref ta1, .ref ta2])), (ta0, .inl (kI, 63, .inl voc)), (ta1, .inl (kH, 8, .inr (.inr (.inr (.inr (fun i => some (tar i))))))), (ta2, .inl (kI, 8, .inl bz))] : va_W) ++ (gJ kJ 8 65 tar M ++ ([] : va_W))) sz)) 0 0 (va_A (([(h0, .inr (2, [.ref ta0, .long dn, .int (nI hh), .int (nI ww), .ref ta1, .ref ta2])), (ta0, .inl (kI, 63, .inl voc)), (ta1, .inl (kH, 8, .inr (.inr (.inr (.inr (fun i => some (tar i))))))), (ta2, .inl (kI, 8, .inl bz))] : va_W) ++ (gJ kJ 8 65 tar M ++ ([] : va_W))) sz) := by
  refine Met.ofW (cc := bT_pivot) (maxL := 6) (ret := none) (by decide) rfl ?_
  intro p e s m args below meth c s₁ B hml hv
  obtain ⟨rfl, hsz, ⟨hP, hK, hN⟩, hD0⟩ := hv
  have hx := B.exec
  have hb := B.bytes
  have hr := B.returns
  have hts := atoms_spec (ws := wT_pivot) B.pre
  have hown : s.vm.findClass NT = some m.cls := findClass_of_methodNamed B.named
  have hlocks := B.notSynchronized
  subst hsz
  have hD := hD0.self (sz := s.heap.size)
  generalize hAe : va_A (([(h0, .inr (2, [.ref ta0, .long dn, .int (nI hh), .int (nI ww), .ref ta1, .ref ta2])), (ta0, .inl (kI, 63, .inl voc)), (ta1, .inl (kH, 8, .inr (.inr (.inr (.inr (fun i => some (tar i))))))), (ta2, .inl (kI, 8, .inl bz))] : va_W) ++ (gJ kJ 8 65 tar M ++ ([] : va_W))) s.heap.size = A at hD ⊢
  have hA : ∀ q : Nat, s.heap.size ≤ q → A q := fun q h => by rw [← hAe]; exact Or.inr h
  have hS : va_S A s.heap s.heap [] := va_S.rf
  have hP : va_P D rcl (([(h0, .inr (2, [.ref ta0, .long dn, .int (nI hh), .int (nI ww), .ref ta1, .ref ta2])), (ta0, .inl (kI, 63, .inl voc)), (ta1, .inl (kH, 8, .inr (.inr (.inr (.inr (fun i => some (tar i))))))), (ta2, .inl (kI, 8, .inl bz))] : va_W) ++ (gJ kJ 8 65 tar M ++ ([] : va_W))) s.heap := hP
  have hl := lv_entry ([.ref h0, .int (nI a), .int (nI en)]) (n := 6) (Nat.le_of_ble_eq_true rfl)
  rw [lg_entry_eq]
  generalize (lg_sl ([.ref h0, .int (nI a), .int (nI en)]) ++ List.replicate (6 - (lg_sl ([.ref h0, .int (nI a), .int (nI en)])).length) Slot.unset).toArray = ls at hl ⊢
  have hl : lv_has ls 6 [(0, .ref h0), (1, .int (nI a)), (2, .int (nI en))] := hl
  refine lv_aload_n hx hb dT_pivot_0 rfl (lv_at hl 0 rfl) ?_
  refine va_get (D := D) (cl := rcl) (ci := 2) (v := .ref ta1) (C := NT) (T := TT) (N := 6) hx hb hts (fun w h => gw_t w (uwT w h)) hown hK hP 0 rfl rfl 4 (by decide) (hts _ (gw_t _ hw119)) (fun _ h9 => h9) rfl dT_pivot_1 ?_
  refine lv_iload_n hx hb dT_pivot_4 rfl (lv_at hl 1 rfl) ?_
  refine ra_a (k := a) (q := tar a) hx hb hK hP 2 4 rfl rfl (by omega) (by omega) (rfl) dT_pivot_5 ?_
  refine lv_iload_n hx hb dT_pivot_6 rfl (lv_at hl 2 rfl) ?_
  refine ra_l (k := en) hx hb hK hP (4 + a) 1 (gr_get (X := ([(h0, .inr (2, [.ref ta0, .long dn, .int (nI hh), .int (nI ww), .ref ta1, .ref ta2])), (ta0, .inl (kI, 63, .inl voc)), (ta1, .inl (kH, 8, .inr (.inr (.inr (.inr (fun i => some (tar i))))))), (ta2, .inl (kI, 8, .inl bz))] : va_W)) (by omega)) rfl (by omega) (by omega) dT_pivot_7 ?_
  refine lv_lstore_n (lv' := [(3, .long (M a en)), (0, .ref h0), (1, .int (nI a)), (2, .int (nI en))]) hx hb dT_pivot_8 rfl hl (by decide) rfl (fun ls hl => ?_)
  refine lv_lload_n hx hb dT_pivot_9 rfl (lv_at hl 0 rfl) ?_
  refine lv_lconst (v := 0) hx hb dT_pivot_10 (by decide) ?_
  refine W.lcmp hx hb dT_pivot_11 ?_
  refine lv_if_le (tgt := 24) hx hb dT_pivot_12 (by decide) (fun c12 => ?_) (fun c12 => ?_)
  · have c12 := (lg_cmp_le (M a en) 0).mp c12
    refine W.widen (k := 0) (n := 0) (by omega) (by omega) ?_
    exact W.vret hx hb hr (fun t ht9 hW9 => ⟨⟨(dn, M, bz), rfl, trivial, by rw [ht9]; exact hP, va_K.moved hW9.alike hK, hD⟩, hS.F ht9⟩) hS.2.2 dT_pivot_24
  · have c12 := mt (lg_cmp_le (M a en) 0).mpr c12
    refine lv_aload_n hx hb dT_pivot_15 rfl (lv_at hl 1 rfl) ?_
    refine va_get (D := D) (cl := rcl) (ci := 2) (v := .long dn) (C := NT) (T := TT) (N := 6) hx hb hts (fun w h => gw_t w (uwT w h)) hown hK hP 0 rfl rfl 1 (by decide) (hts _ (gw_t _ hw115)) (fun _ h9 => h9) rfl dT_pivot_16 ?_
    refine lv_lconst (v := 0) hx hb dT_pivot_19 (by decide) ?_
    refine W.lcmp hx hb dT_pivot_20 ?_
    refine lv_if_gt (tgt := 25) hx hb dT_pivot_21 (by decide) (fun c21 => ?_) (fun c21 => ?_)
    · have c21 := (lg_cmp_gt dn 0).mp c21
      refine lv_iconst (v := 0) hx hb dT_pivot_25 (by decide) ?_
      have hdp : ¬ dn = 0 := fun q => by rw [q] at c21; exact absurd c21 (by decide)
      have LP28 : ∀ (dd : Nat) (k : Nat) (M9 : Nat → Nat → Int64) (H : Heap) (locs : List Loc) (ls : Array Slot), hh - k < dd → (k ≤ 8) → va_P D rcl (([(h0, .inr (2, [.ref ta0, .long dn, .int (nI hh), .int (nI ww), .ref ta1, .ref ta2])), (ta0, .inl (kI, 63, .inl voc)), (ta1, .inl (kH, 8, .inr (.inr (.inr (.inr (fun i => some (tar i))))))), (ta2, .inl (kI, 8, .inl bz))] : va_W) ++ (gJ kJ 8 65 tar M9 ++ ([] : va_W))) H → va_D A (([(h0, .inr (2, [.ref ta0, .long dn, .int (nI hh), .int (nI ww), .ref ta1, .ref ta2])), (ta0, .inl (kI, 63, .inl voc)), (ta1, .inl (kH, 8, .inr (.inr (.inr (.inr (fun i => some (tar i))))))), (ta2, .inl (kI, 8, .inl bz))] : va_W) ++ (gJ kJ 8 65 tar M9 ++ ([] : va_W))) → va_S A s.heap H locs → lv_has ls 6 [(0, .ref h0), (1, .int (nI a)), (2, .int (nI en)), (3, .long (M a en)), (5, .int (nI k))] → W p l e (headSpec wT_pivot (rmL 1 0 0)).room s m ([.ref h0, .int (nI a), .int (nI en)] : List Value).toArray below meth c H locs 0 0 (MQ below (va_Qv (fun v9 : Int64 × (Nat → Nat → Int64) × (Nat → Int32) => True) (fun v9 t => va_P D rcl (([(h0, .inr (2, [.ref ta0, .long v9.1, .int (nI hh), .int (nI ww), .ref ta1, .ref ta2])), (ta0, .inl (kI, 63, .inl voc)), (ta1, .inl (kH, 8, .inr (.inr (.inr (.inr (fun i => some (tar i))))))), (ta2, .inl (kI, 8, .inl v9.2.2))] : va_W) ++ (gJ kJ 8 65 tar v9.2.1 ++ ([] : va_W))) t.heap ∧ va_K D rcl (TY kI kJ kZ kG kH) t ∧ va_D A (([(h0, .inr (2, [.ref ta0, .long v9.1, .int (nI hh), .int (nI ww), .ref ta1, .ref ta2])), (ta0, .inl (kI, 63, .inl voc)), (ta1, .inl (kH, 8, .inr (.inr (.inr (.inr (fun i => some (tar i))))))), (ta2, .inl (kI, 8, .inl v9.2.2))] : va_W) ++ (gJ kJ 8 65 tar v9.2.1 ++ ([] : va_W)))) A) ([.ref h0, .int (nI a), .int (nI en)] : List Value).toArray s 0 0 A) (F0 m 28 ls []) := by
        intro dd
        induction dd with
        | zero =>
          intro k M9 H locs ls hm
          exact absurd hm (Nat.not_lt_zero _)
        | succ dd ihLP28 =>
          intro k M9 H locs ls hm hk hP hD hS hl
          have hd0 : ¬ dn = 0 := hdp
          refine lv_iload hx hb dT_pivot_28 (lv_at hl 4 rfl) ?_
          refine lv_aload_n hx hb dT_pivot_30 rfl (lv_at hl 0 rfl) ?_
          refine va_get (D := D) (cl := rcl) (ci := 2) (v := .int (nI hh)) (C := NT) (T := TT) (N := 6) hx hb hts (fun w h => gw_t w (uwT w h)) hown hK hP 0 rfl rfl 2 (by decide) (hts _ (gw_t _ hw117)) (fun _ h9 => h9) rfl dT_pivot_31 ?_
          refine lv_icmp_ge (tgt := 57) hx hb dT_pivot_34 (by decide) (fun c34 => ?_) (fun c34 => ?_)
          · have c34 : hh ≤ k := (nI_leI (a := hh) (b := k) (by omega) (by omega)).mp c34
            refine lv_aload_n hx hb dT_pivot_57 rfl (lv_at hl 0 rfl) ?_
            refine lv_lload_n hx hb dT_pivot_58 rfl (lv_at hl 3 rfl) ?_
            refine va_put (D := D) (cl := rcl) (ci := 2) (v := .long (M a en)) (ty := .long) (C := NT) (T := TT) (N := 6) hx hb hts (fun w h => gw_t w (uwT w h)) tyT tyT_ok nmT hown hK hP hD hS 0 rfl rfl 1 (by decide) (hts _ (gw_t _ hw115)) (fun _ h9 => h9) rfl (by decide +kernel) (rfl) (rfl) (Nat.le_of_ble_eq_true rfl) dT_pivot_59 (fun H locs hP hD hS => ?_)
            rw [setX (X := [(h0, .inr (2, [.ref ta0, .long dn, .int (nI hh), .int (nI ww), .ref ta1, .ref ta2])), (ta0, .inl (kI, 63, .inl voc)), (ta1, .inl (kH, 8, .inr (.inr (.inr (.inr (fun i => some (tar i))))))), (ta2, .inl (kI, 8, .inl bz))]) (k := 0) (Nat.le_of_ble_eq_true rfl)] at hP hD
            have hP : va_P D rcl (([(h0, .inr (2, [.ref ta0, .long (M a en), .int (nI hh), .int (nI ww), .ref ta1, .ref ta2])), (ta0, .inl (kI, 63, .inl voc)), (ta1, .inl (kH, 8, .inr (.inr (.inr (.inr (fun i => some (tar i))))))), (ta2, .inl (kI, 8, .inl bz))] : va_W) ++ (gJ kJ 8 65 tar M9 ++ ([] : va_W))) H := hP
            have hD : va_D A (([(h0, .inr (2, [.ref ta0, .long (M a en), .int (nI hh), .int (nI ww), .ref ta1, .ref ta2])), (ta0, .inl (kI, 63, .inl voc)), (ta1, .inl (kH, 8, .inr (.inr (.inr (.inr (fun i => some (tar i))))))), (ta2, .inl (kI, 8, .inl bz))] : va_W) ++ (gJ kJ 8 65 tar M9 ++ ([] : va_W))) := hD
            refine lv_aload_n hx hb dT_pivot_62 rfl (lv_at hl 0 rfl) ?_
            refine va_get (D := D) (cl := rcl) (ci := 2) (v := .ref ta2) (C := NT) (T := TT) (N := 6) hx hb hts (fun w h => gw_t w (uwT w h)) hown hK hP 0 rfl rfl 5 (by decide) (hts _ (gw_t _ hw120)) (fun _ h9 => h9) rfl dT_pivot_63 ?_
            refine lv_iload_n hx hb dT_pivot_66 rfl (lv_at hl 1 rfl) ?_
            refine lv_iload_n hx hb dT_pivot_67 rfl (lv_at hl 2 rfl) ?_
            refine wa_i (k := a) hx hb hK hP hD hS 3 0 rfl rfl (by omega) (by omega) dT_pivot_68 (fun H locs hP hD hS => ?_)
            rw [setX (X := [(h0, .inr (2, [.ref ta0, .long (M a en), .int (nI hh), .int (nI ww), .ref ta1, .ref ta2])), (ta0, .inl (kI, 63, .inl voc)), (ta1, .inl (kH, 8, .inr (.inr (.inr (.inr (fun i => some (tar i))))))), (ta2, .inl (kI, 8, .inl bz))]) (k := 3) (Nat.le_of_ble_eq_true rfl)] at hP hD
            have hP : va_P D rcl (([(h0, .inr (2, [.ref ta0, .long (M a en), .int (nI hh), .int (nI ww), .ref ta1, .ref ta2])), (ta0, .inl (kI, 63, .inl voc)), (ta1, .inl (kH, 8, .inr (.inr (.inr (.inr (fun i => some (tar i))))))), (ta2, .inl (kI, 8, .inl (upd bz a (nI en))))] : va_W) ++ (gJ kJ 8 65 tar M9 ++ ([] : va_W))) H := hP
            have hD : va_D A (([(h0, .inr (2, [.ref ta0, .long (M a en), .int (nI hh), .int (nI ww), .ref ta1, .ref ta2])), (ta0, .inl (kI, 63, .inl voc)), (ta1, .inl (kH, 8, .inr (.inr (.inr (.inr (fun i => some (tar i))))))), (ta2, .inl (kI, 8, .inl (upd bz a (nI en))))] : va_W) ++ (gJ kJ 8 65 tar M9 ++ ([] : va_W))) := hD
            refine W.widen (k := 0) (n := 0) (by omega) (by omega) ?_
            exact W.vret hx hb hr (fun t ht9 hW9 => ⟨⟨(M a en, M9, upd bz a (nI en)), rfl, trivial, by rw [ht9]; exact hP, va_K.moved hW9.alike hK, hD⟩, hS.F ht9⟩) hS.2.2 dT_pivot_69
          · have c34 : ¬ hh ≤ k := mt (nI_leI (a := hh) (b := k) (by omega) (by omega)).mpr c34
            refine lv_iload hx hb dT_pivot_37 (lv_at hl 4 rfl) ?_
            refine lv_iload_n hx hb dT_pivot_39 rfl (lv_at hl 1 rfl) ?_
            refine lv_icmp_eq (tgt := 51) hx hb dT_pivot_40 (by decide) (fun c40 => ?_) (fun c40 => ?_)
            · have c40 : k = a := (nI_eq (a := k) (b := a) (by omega) (by omega)).mp c40
              refine lv_iinc (v := nI (k + 1)) (lv' := [(5, .int (nI (k + 1))), (0, .ref h0), (1, .int (nI a)), (2, .int (nI en)), (3, .long (M a en))]) hx hb dT_pivot_51 hl (k := 4) rfl (nI_add k 1) (by decide) rfl (fun ls hl => ?_)
              refine lv_goto (tgt := 28) hx hb dT_pivot_54 (by decide) ?_
              exact ihLP28 (k + 1) M9 _ _ ls (by omega) (by omega) hP hD hS (lv_sub hl [1, 2, 3, 4, 0] rfl)
            · have c40 : ¬ k = a := mt (nI_eq (a := k) (b := a) (by omega) (by omega)).mpr c40
              refine lv_aload_n hx hb dT_pivot_43 rfl (lv_at hl 0 rfl) ?_
              refine lv_iload hx hb dT_pivot_44 (lv_at hl 4 rfl) ?_
              refine lv_iload_n hx hb dT_pivot_46 rfl (lv_at hl 1 rfl) ?_
              refine lv_iload_n hx hb dT_pivot_47 rfl (lv_at hl 2 rfl) ?_
              have hPc := va_P.part (X := [(h0, .inr (2, [.ref ta0, .long dn, .int (nI hh), .int (nI ww), .ref ta1, .ref ta2])), (ta0, .inl (kI, 63, .inl voc)), (ta1, .inl (kH, 8, .inr (.inr (.inr (.inr (fun i => some (tar i))))))), (ta2, .inl (kI, 8, .inl bz))]) (cx := [(h0, .inr (2, [.ref ta0, .long dn, .int (nI hh), .int (nI ww), .ref ta1, .ref ta2])), (ta0, .inl (kI, 63, .inl voc)), (ta1, .inl (kH, 8, .inr (.inr (.inr (.inr (fun i => some (tar i))))))), (ta2, .inl (kI, 8, .inl bz))]) (pl := (gJ kJ 8 65 tar M9 ++ ([] : va_W))) hP [0, 1, 2, 3] rfl
              have hDc := va_D.part (X := [(h0, .inr (2, [.ref ta0, .long dn, .int (nI hh), .int (nI ww), .ref ta1, .ref ta2])), (ta0, .inl (kI, 63, .inl voc)), (ta1, .inl (kH, 8, .inr (.inr (.inr (.inr (fun i => some (tar i))))))), (ta2, .inl (kI, 8, .inl bz))]) (cx := [(h0, .inr (2, [.ref ta0, .long dn, .int (nI hh), .int (nI ww), .ref ta1, .ref ta2])), (ta0, .inl (kI, 63, .inl voc)), (ta1, .inl (kH, 8, .inr (.inr (.inr (.inr (fun i => some (tar i))))))), (ta2, .inl (kI, 8, .inl bz))]) (pl := (gJ kJ 8 65 tar M9 ++ ([] : va_W))) hD [0, 1, 2, 3] (by decide) rfl
              have hFc := va_freeP (X := [(h0, .inr (2, [.ref ta0, .long dn, .int (nI hh), .int (nI ww), .ref ta1, .ref ta2])), (ta0, .inl (kI, 63, .inl voc)), (ta1, .inl (kH, 8, .inr (.inr (.inr (.inr (fun i => some (tar i))))))), (ta2, .inl (kI, 8, .inl bz))]) (cx := [(h0, .inr (2, [.ref ta0, .long dn, .int (nI hh), .int (nI ww), .ref ta1, .ref ta2])), (ta0, .inl (kI, 63, .inl voc)), (ta1, .inl (kH, 8, .inr (.inr (.inr (.inr (fun i => some (tar i))))))), (ta2, .inl (kI, 8, .inl bz))]) (pl := (gJ kJ 8 65 tar M9 ++ ([] : va_W))) hD hS hA [0, 1, 2, 3] rfl
              refine va_callv (va_runV (C := NT) (As := [.int (nI k), .int (nI a), .int (nI en)]) (rest := []) ⟨hx, hb, hml, hown, hts⟩ (cT_eliminate l D kI kJ kZ kG kH h0 ta0 ta1 ta2 tar dn hh ww voc M9 bz k a en hh8 hw65 (by omega) ha hen hd0 H.size) ⟨cB 3 hts hw376 hw6 hw373 (by decide +kernel) ⟨Nat.le_of_ble_eq_true rfl, Nat.le_of_ble_eq_true rfl⟩ rfl rfl, hts _ (gw_t _ hw375), hts _ (gw_t _ hs8)⟩ ⟨fun a U g mk q => ⟨q.1, q.2.1, q.2.2.1.calling g mk a, q.2.2.2⟩, va_recv hK hPc (ci := 2) (q0 := 0) rfl rfl, fun U hU hW => ⟨rfl, by rw [hU], wd.use hPc hK hN hU hW, hDc.weaken (fun _ _ _ _ => trivial)⟩⟩ rfl rfl hl.1 rfl (lv_room (Nat.le_of_ble_eq_true rfl)) dT_pivot_48 ⟨Nat.le_of_ble_eq_true rfl, Nat.le_of_ble_eq_true rfl⟩) hS (fun q _ h => hFc q h) hFc (fun u9 t9 H1 locs ht9 hvm9 hr1 hB9 hz9 hk9 hS => ?_)
              obtain ⟨M8, hM8⟩ : ∃ z, z = u9 := ⟨_, rfl⟩
              subst hM8
              obtain ⟨hP1, -, hD1⟩ := hB9
              rw [ht9] at hP1
              obtain ⟨hP, hD⟩ := va_joinP (X := [(h0, .inr (2, [.ref ta0, .long dn, .int (nI hh), .int (nI ww), .ref ta1, .ref ta2])), (ta0, .inl (kI, 63, .inl voc)), (ta1, .inl (kH, 8, .inr (.inr (.inr (.inr (fun i => some (tar i))))))), (ta2, .inl (kI, 8, .inl bz))]) (cx := [(h0, .inr (2, [.ref ta0, .long dn, .int (nI hh), .int (nI ww), .ref ta1, .ref ta2])), (ta0, .inl (kI, 63, .inl voc)), (ta1, .inl (kH, 8, .inr (.inr (.inr (.inr (fun i => some (tar i))))))), (ta2, .inl (kI, 8, .inl bz))]) (wr := []) (rx := [(h0, .inr (2, [.ref ta0, .long dn, .int (nI hh), .int (nI ww), .ref ta1, .ref ta2])), (ta0, .inl (kI, 63, .inl voc)), (ta1, .inl (kH, 8, .inr (.inr (.inr (.inr (fun i => some (tar i))))))), (ta2, .inl (kI, 8, .inl bz))]) (pl := (gJ kJ 8 65 tar M9 ++ ([] : va_W))) (pl1 := (gJ kJ 8 65 tar M8 ++ ([] : va_W))) hP hD [0, 1, 2, 3] [] rfl rfl (by decide) (by decide) hk9 hFc hP1 hD1
              generalize H1 = H at hP hS ⊢
              have hP : va_P D rcl (([(h0, .inr (2, [.ref ta0, .long dn, .int (nI hh), .int (nI ww), .ref ta1, .ref ta2])), (ta0, .inl (kI, 63, .inl voc)), (ta1, .inl (kH, 8, .inr (.inr (.inr (.inr (fun i => some (tar i))))))), (ta2, .inl (kI, 8, .inl bz))] : va_W) ++ (gJ kJ 8 65 tar M8 ++ ([] : va_W))) H := hP
              have hD : va_D A (([(h0, .inr (2, [.ref ta0, .long dn, .int (nI hh), .int (nI ww), .ref ta1, .ref ta2])), (ta0, .inl (kI, 63, .inl voc)), (ta1, .inl (kH, 8, .inr (.inr (.inr (.inr (fun i => some (tar i))))))), (ta2, .inl (kI, 8, .inl bz))] : va_W) ++ (gJ kJ 8 65 tar M8 ++ ([] : va_W))) := hD
              refine lv_iinc (v := nI (k + 1)) (lv' := [(5, .int (nI (k + 1))), (0, .ref h0), (1, .int (nI a)), (2, .int (nI en)), (3, .long (M a en))]) hx hb dT_pivot_51 hl (k := 4) rfl (nI_add k 1) (by decide) rfl (fun ls hl => ?_)
              refine lv_goto (tgt := 28) hx hb dT_pivot_54 (by decide) ?_
              exact ihLP28 (k + 1) M8 _ _ ls (by omega) (by omega) hP hD hS (lv_sub hl [1, 2, 3, 4, 0] rfl)
      refine lv_istore (lv' := [(5, .int 0), (3, .long (M a en)), (0, .ref h0), (1, .int (nI a)), (2, .int (nI en))]) hx hb dT_pivot_26 hl (by decide) rfl (fun ls hl => ?_)
      exact LP28 _ 0 M _ _ ls (Nat.lt_succ_self _) (by omega) hP hD hS (lv_sub hl [2, 3, 4, 1, 0] rfl)
    · have c21 := mt (lg_cmp_gt dn 0).mpr c21
      refine W.widen (k := 0) (n := 0) (by omega) (by omega) ?_
      exact W.vret hx hb hr (fun t ht9 hW9 => ⟨⟨(dn, M, bz), rfl, trivial, by rw [ht9]; exact hP, va_K.moved hW9.alike hK, hD⟩, hS.F ht9⟩) hS.2.2 dT_pivot_24

set_option maxHeartbeats 4000000 in
set_option maxRecDepth 100000 in
theorem cT_minimise (l : Launch) (D : va_G) (kI kJ kZ kG kH : ClassId) (h0 : Nat) (ta0 : Nat) (ta1 : Nat) (ta2 : Nat) (tar : Nat → Nat) (dn : Int64) (hh : Nat) (ww : Nat) (voc : Nat → Int32) (M : Nat → Nat → Int64) (bz : Nat → Int32) (hh8 : hh ≤ 8) (hw65 : ww ≤ 65) (sz : Nat) : Met l yT_minimise wT_minimise (rmL 2 0 0) (va_Pc [.ref h0] (fun U => U.heap.size = sz ∧ wd D kI kJ kZ kG kH (([(h0, .inr (2, [.ref ta0, .long dn, .int (nI hh), .int (nI ww), .ref ta1, .ref ta2])), (ta0, .inl (kI, 63, .inl voc)), (ta1, .inl (kH, 8, .inr (.inr (.inr (.inr (fun i => some (tar i))))))), (ta2, .inl (kI, 8, .inl bz))] : va_W) ++ (gJ kJ 8 65 tar M ++ ([] : va_W))) U ∧ va_D (fun _ => True) (([(h0, .inr (2, [.ref ta0, .long dn, .int (nI hh), .int (nI ww), .ref ta1, .ref ta2])), (ta0, .inl (kI, 63, .inl voc)), (ta1, .inl (kH, 8, .inr (.inr (.inr (.inr (fun i => some (tar i))))))), (ta2, .inl (kI, 8, .inl bz))] : va_W) ++ (gJ kJ 8 65 tar M ++ ([] : va_W))))) (va_Qv (fun v9 : Int64 × (Nat → Nat → Int64) × (Nat → Int32) => True) (fun v9 t => va_P D rcl (([(h0, .inr (2, [.ref ta0, .long v9.1, .int (nI hh), .int (nI ww), .ref ta1, .ref ta2])), (ta0, .inl (kI, 63, .inl voc)), (ta1, .inl (kH, 8, .inr (.inr (.inr (.inr (fun i => some (tar i))))))), (ta2, .inl (kI, 8, .inl v9.2.2))] : va_W) ++ (gJ kJ 8 65 tar v9.2.1 ++ ([] : va_W))) t.heap ∧ va_K D rcl (TY kI kJ kZ kG kH) t ∧ va_D (va_A (([(h0, .inr (2, [.ref ta0, .long dn, .int (nI hh), .int (nI ww), .ref ta1, .ref ta2])), (ta0, .inl (kI, 63, .inl voc)), (ta1, .inl (kH, 8, .inr (.inr (.inr (.inr (fun i => some (tar i))))))), (ta2, .inl (kI, 8, .inl bz))] : va_W) ++ (gJ kJ 8 65 tar M ++ ([] : va_W))) sz) (([(h0, .inr (2, [.ref ta0, .long v9.1, .int (nI hh), .int (nI ww), .ref ta1, .ref ta2])), (ta0, .inl (kI, 63, .inl voc)), (ta1, .inl (kH, 8, .inr (.inr (.inr (.inr (fun i => some (tar i))))))), (ta2, .inl (kI, 8, .inl v9.2.2))] : va_W) ++ (gJ kJ 8 65 tar v9.2.1 ++ ([] : va_W)))) (va_A (([(h0, .inr (2, [.ref ta0, .long dn, .int (nI hh), .int (nI ww), .ref ta1, .ref ta2])), (ta0, .inl (kI, 63, .inl voc)), (ta1, .inl (kH, 8, .inr (.inr (.inr (.inr (fun i => some (tar i))))))), (ta2, .inl (kI, 8, .inl bz))] : va_W) ++ (gJ kJ 8 65 tar M ++ ([] : va_W))) sz)) 0 0 (va_A (([(h0, .inr (2, [.ref ta0, .long dn, .int (nI hh), .int (nI ww), .ref ta1, .ref ta2])), (ta0, .inl (kI, 63, .inl voc)), (ta1, .inl (kH, 8, .inr (.inr (.inr (.inr (fun i => some (tar i))))))), (ta2, .inl (kI, 8, .inl bz))] : va_W) ++ (gJ kJ 8 65 tar M ++ ([] : va_W))) sz) := by
  refine Met.ofW (cc := bT_minimise) (maxL := 4) (ret := none) (by decide) rfl ?_
  intro p e s m args below meth c s₁ B hml hv
  obtain ⟨rfl, hsz, ⟨hP, hK, hN⟩, hD0⟩ := hv
  have hx := B.exec
  have hb := B.bytes
  have hr := B.returns
  have hts := atoms_spec (ws := wT_minimise) B.pre
  have hown : s.vm.findClass NT = some m.cls := findClass_of_methodNamed B.named
  have hlocks := B.notSynchronized
  subst hsz
  have hD := hD0.self (sz := s.heap.size)
  generalize hAe : va_A (([(h0, .inr (2, [.ref ta0, .long dn, .int (nI hh), .int (nI ww), .ref ta1, .ref ta2])), (ta0, .inl (kI, 63, .inl voc)), (ta1, .inl (kH, 8, .inr (.inr (.inr (.inr (fun i => some (tar i))))))), (ta2, .inl (kI, 8, .inl bz))] : va_W) ++ (gJ kJ 8 65 tar M ++ ([] : va_W))) s.heap.size = A at hD ⊢
  have hA : ∀ q : Nat, s.heap.size ≤ q → A q := fun q h => by rw [← hAe]; exact Or.inr h
  have hS : va_S A s.heap s.heap [] := va_S.rf
  have hP : va_P D rcl (([(h0, .inr (2, [.ref ta0, .long dn, .int (nI hh), .int (nI ww), .ref ta1, .ref ta2])), (ta0, .inl (kI, 63, .inl voc)), (ta1, .inl (kH, 8, .inr (.inr (.inr (.inr (fun i => some (tar i))))))), (ta2, .inl (kI, 8, .inl bz))] : va_W) ++ (gJ kJ 8 65 tar M ++ ([] : va_W))) s.heap := hP
  have hl := lv_entry ([.ref h0]) (n := 4) (Nat.le_of_ble_eq_true rfl)
  rw [lg_entry_eq]
  generalize (lg_sl ([.ref h0]) ++ List.replicate (4 - (lg_sl ([.ref h0])).length) Slot.unset).toArray = ls at hl ⊢
  have hl : lv_has ls 4 [(0, .ref h0)] := hl
  have LP2 : ∀ (dd : Nat) (pv : Nat) (d9 : Int64) (M9 : Nat → Nat → Int64) (b9 : Nat → Int32) (H : Heap) (locs : List Loc) (ls : Array Slot), 1000000 - pv < dd → (pv ≤ 1000000) → va_P D rcl (([(h0, .inr (2, [.ref ta0, .long d9, .int (nI hh), .int (nI ww), .ref ta1, .ref ta2])), (ta0, .inl (kI, 63, .inl voc)), (ta1, .inl (kH, 8, .inr (.inr (.inr (.inr (fun i => some (tar i))))))), (ta2, .inl (kI, 8, .inl b9))] : va_W) ++ (gJ kJ 8 65 tar M9 ++ ([] : va_W))) H → va_D A (([(h0, .inr (2, [.ref ta0, .long d9, .int (nI hh), .int (nI ww), .ref ta1, .ref ta2])), (ta0, .inl (kI, 63, .inl voc)), (ta1, .inl (kH, 8, .inr (.inr (.inr (.inr (fun i => some (tar i))))))), (ta2, .inl (kI, 8, .inl b9))] : va_W) ++ (gJ kJ 8 65 tar M9 ++ ([] : va_W))) → va_S A s.heap H locs → lv_has ls 4 [(0, .ref h0), (1, .int (nI pv))] → W p l e (headSpec wT_minimise (rmL 2 0 0)).room s m ([.ref h0] : List Value).toArray below meth c H locs 0 0 (MQ below (va_Qv (fun v9 : Int64 × (Nat → Nat → Int64) × (Nat → Int32) => True) (fun v9 t => va_P D rcl (([(h0, .inr (2, [.ref ta0, .long v9.1, .int (nI hh), .int (nI ww), .ref ta1, .ref ta2])), (ta0, .inl (kI, 63, .inl voc)), (ta1, .inl (kH, 8, .inr (.inr (.inr (.inr (fun i => some (tar i))))))), (ta2, .inl (kI, 8, .inl v9.2.2))] : va_W) ++ (gJ kJ 8 65 tar v9.2.1 ++ ([] : va_W))) t.heap ∧ va_K D rcl (TY kI kJ kZ kG kH) t ∧ va_D A (([(h0, .inr (2, [.ref ta0, .long v9.1, .int (nI hh), .int (nI ww), .ref ta1, .ref ta2])), (ta0, .inl (kI, 63, .inl voc)), (ta1, .inl (kH, 8, .inr (.inr (.inr (.inr (fun i => some (tar i))))))), (ta2, .inl (kI, 8, .inl v9.2.2))] : va_W) ++ (gJ kJ 8 65 tar v9.2.1 ++ ([] : va_W)))) A) ([.ref h0] : List Value).toArray s 0 0 A) (F0 m 2 ls []) := by
    intro dd
    induction dd with
    | zero =>
      intro pv d9 M9 b9 H locs ls hm
      exact absurd hm (Nat.not_lt_zero _)
    | succ dd ihLP2 =>
      intro pv d9 M9 b9 H locs ls hm hk hP hD hS hl
      refine lv_iload_n hx hb dT_minimise_2 rfl (lv_at hl 1 rfl) ?_
      refine lv_ldc (v := 1000000) (own := NT) hx hb hown (hts _ (gw_t _ hw352)) dT_minimise_3 ?_
      refine lv_icmp_ge (tgt := 59) hx hb dT_minimise_5 (by decide) (fun c5 => ?_) (fun c5 => ?_)
      · have c5 : 1000000 ≤ pv := (nI_leI (a := 1000000) (b := pv) (by omega) (by omega)).mp c5
        refine W.widen (k := 0) (n := 0) (by omega) (by omega) ?_
        exact W.vret hx hb hr (fun t ht9 hW9 => ⟨⟨(d9, M9, b9), rfl, trivial, by rw [ht9]; exact hP, va_K.moved hW9.alike hK, hD⟩, hS.F ht9⟩) hS.2.2 dT_minimise_59
      · have c5 : ¬ 1000000 ≤ pv := mt (nI_leI (a := 1000000) (b := pv) (by omega) (by omega)).mpr c5
        refine lv_iload_n hx hb dT_minimise_8 rfl (lv_at hl 1 rfl) ?_
        refine lv_bipush (v := 12) hx hb dT_minimise_9 (by decide) ?_
        refine lv_icmp_ge (tgt := 21) hx hb dT_minimise_11 (by decide) (fun c11 => ?_) (fun c11 => ?_)
        · have c11 : 12 ≤ pv := (nI_leI (a := 12) (b := pv) (by omega) (by omega)).mp c11
          refine lv_aload_n hx hb dT_minimise_21 rfl (lv_at hl 0 rfl) ?_
          refine vp_callSi (W.runV (C := NT) (As := []) (rest := []) ⟨hx, hb, hml, hown, hts⟩ (cT_firstThatSaves l D kI kJ kZ kG kH h0 ta0 ta1 ta2 tar d9 hh ww voc M9 b9 hh8 hw65) ⟨cB 0 hts hw360 hw6 hw357 (by decide +kernel) ⟨Nat.le_of_ble_eq_true rfl, Nat.le_of_ble_eq_true rfl⟩ rfl rfl, hts _ (gw_t _ hw359), hts _ (gw_t _ hs4)⟩ ⟨fun a U g mk q => ⟨q.1, q.2.calling g mk a⟩, va_recv hK hP (ci := 2) (q0 := 0) rfl rfl, fun U hU hW => ⟨rfl, wd.use hP hK hN hU hW⟩⟩ rfl rfl hl.1 rfl (lv_room (Nat.le_of_ble_eq_true rfl)) dT_minimise_22 ⟨Nat.le_of_ble_eq_true rfl, Nat.le_of_ble_eq_true rfl⟩) (fun r22 hr22 => ?_)
          obtain ⟨o5, rfl, ho5⟩ := hr22
          refine lv_istore_n (lv' := [(2, .int (fdI o5)), (0, .ref h0), (1, .int (nI pv))]) hx hb dT_minimise_25 rfl hl (by decide) rfl (fun ls hl => ?_)
          refine lv_iload_n hx hb dT_minimise_26 rfl (lv_at hl 0 rfl) ?_
          refine lv_iconst (v := -1) hx hb dT_minimise_27 (by decide) ?_
          refine lv_icmp_ne (tgt := 35) hx hb dT_minimise_28 (by decide) (fun c28 => ?_) (fun c28 => ?_)
          · obtain ⟨e5, rfl⟩ := fd_ne c28
            have he5 := ho5 e5 rfl
            refine lv_aload_n hx hb dT_minimise_35 rfl (lv_at hl 1 rfl) ?_
            refine lv_iload_n hx hb dT_minimise_36 rfl (lv_at hl 0 rfl) ?_
            refine vp_callSi (W.runV (C := NT) (As := [.int (nI e5)]) (rest := []) ⟨hx, hb, hml, hown, hts⟩ (cT_tightestRow l D kI kJ kZ kG kH h0 ta0 ta1 ta2 tar d9 hh ww voc M9 b9 e5 hh8 hw65 (by omega)) ⟨cB 1 hts hw364 hw6 hw361 (by decide +kernel) ⟨Nat.le_of_ble_eq_true rfl, Nat.le_of_ble_eq_true rfl⟩ rfl rfl, hts _ (gw_t _ hw363), hts _ (gw_t _ hs5)⟩ ⟨fun a U g mk q => ⟨q.1, q.2.calling g mk a⟩, va_recv hK hP (ci := 2) (q0 := 0) rfl rfl, fun U hU hW => ⟨rfl, wd.use hP hK hN hU hW⟩⟩ rfl rfl hl.1 rfl (lv_room (Nat.le_of_ble_eq_true rfl)) dT_minimise_37 ⟨Nat.le_of_ble_eq_true rfl, Nat.le_of_ble_eq_true rfl⟩) (fun r37 hr37 => ?_)
            obtain ⟨o7, rfl, ho7⟩ := hr37
            refine lv_istore_n (lv' := [(3, .int (fdI o7)), (2, .int (nI e5)), (0, .ref h0), (1, .int (nI pv))]) hx hb dT_minimise_40 rfl hl (by decide) rfl (fun ls hl => ?_)
            refine lv_iload_n hx hb dT_minimise_41 rfl (lv_at hl 0 rfl) ?_
            refine lv_iconst (v := -1) hx hb dT_minimise_42 (by decide) ?_
            refine lv_icmp_ne (tgt := 47) hx hb dT_minimise_43 (by decide) (fun c43 => ?_) (fun c43 => ?_)
            · obtain ⟨f7, rfl⟩ := fd_ne c43
              have hf7 := ho7 f7 rfl
              refine lv_aload_n hx hb dT_minimise_47 rfl (lv_at hl 2 rfl) ?_
              refine lv_iload_n hx hb dT_minimise_48 rfl (lv_at hl 0 rfl) ?_
              refine lv_iload_n hx hb dT_minimise_49 rfl (lv_at hl 1 rfl) ?_
              have hPc := va_P.part (X := [(h0, .inr (2, [.ref ta0, .long d9, .int (nI hh), .int (nI ww), .ref ta1, .ref ta2])), (ta0, .inl (kI, 63, .inl voc)), (ta1, .inl (kH, 8, .inr (.inr (.inr (.inr (fun i => some (tar i))))))), (ta2, .inl (kI, 8, .inl b9))]) (cx := [(h0, .inr (2, [.ref ta0, .long d9, .int (nI hh), .int (nI ww), .ref ta1, .ref ta2])), (ta0, .inl (kI, 63, .inl voc)), (ta1, .inl (kH, 8, .inr (.inr (.inr (.inr (fun i => some (tar i))))))), (ta2, .inl (kI, 8, .inl b9))]) (pl := (gJ kJ 8 65 tar M9 ++ ([] : va_W))) hP [0, 1, 2, 3] rfl
              have hDc := va_D.part (X := [(h0, .inr (2, [.ref ta0, .long d9, .int (nI hh), .int (nI ww), .ref ta1, .ref ta2])), (ta0, .inl (kI, 63, .inl voc)), (ta1, .inl (kH, 8, .inr (.inr (.inr (.inr (fun i => some (tar i))))))), (ta2, .inl (kI, 8, .inl b9))]) (cx := [(h0, .inr (2, [.ref ta0, .long d9, .int (nI hh), .int (nI ww), .ref ta1, .ref ta2])), (ta0, .inl (kI, 63, .inl voc)), (ta1, .inl (kH, 8, .inr (.inr (.inr (.inr (fun i => some (tar i))))))), (ta2, .inl (kI, 8, .inl b9))]) (pl := (gJ kJ 8 65 tar M9 ++ ([] : va_W))) hD [0, 1, 2, 3] (by decide) rfl
              have hFc := va_freeP (X := [(h0, .inr (2, [.ref ta0, .long d9, .int (nI hh), .int (nI ww), .ref ta1, .ref ta2])), (ta0, .inl (kI, 63, .inl voc)), (ta1, .inl (kH, 8, .inr (.inr (.inr (.inr (fun i => some (tar i))))))), (ta2, .inl (kI, 8, .inl b9))]) (cx := [(h0, .inr (2, [.ref ta0, .long d9, .int (nI hh), .int (nI ww), .ref ta1, .ref ta2])), (ta0, .inl (kI, 63, .inl voc)), (ta1, .inl (kH, 8, .inr (.inr (.inr (.inr (fun i => some (tar i))))))), (ta2, .inl (kI, 8, .inl b9))]) (pl := (gJ kJ 8 65 tar M9 ++ ([] : va_W))) hD hS hA [0, 1, 2, 3] rfl
              refine va_callv (va_runV (C := NT) (As := [.int (nI f7), .int (nI e5)]) (rest := []) ⟨hx, hb, hml, hown, hts⟩ (cT_pivot l D kI kJ kZ kG kH h0 ta0 ta1 ta2 tar d9 hh ww voc M9 b9 f7 e5 hh8 hw65 (by omega) (by omega) H.size) ⟨cB 2 hts hw372 hw6 hw369 (by decide +kernel) ⟨Nat.le_of_ble_eq_true rfl, Nat.le_of_ble_eq_true rfl⟩ rfl rfl, hts _ (gw_t _ hw371), hts _ (gw_t _ hs7)⟩ ⟨fun a U g mk q => ⟨q.1, q.2.1, q.2.2.1.calling g mk a, q.2.2.2⟩, va_recv hK hPc (ci := 2) (q0 := 0) rfl rfl, fun U hU hW => ⟨rfl, by rw [hU], wd.use hPc hK hN hU hW, hDc.weaken (fun _ _ _ _ => trivial)⟩⟩ rfl rfl hl.1 rfl (lv_room (Nat.le_of_ble_eq_true rfl)) dT_minimise_50 ⟨Nat.le_of_ble_eq_true rfl, Nat.le_of_ble_eq_true rfl⟩) hS (fun q _ h => hFc q h) hFc (fun u9 t9 H1 locs ht9 hvm9 hr1 hB9 hz9 hk9 hS => ?_)
              obtain ⟨y1, y2, y3⟩ := u9
              obtain ⟨hP1, -, hD1⟩ := hB9
              rw [ht9] at hP1
              obtain ⟨hP, hD⟩ := va_joinP (X := [(h0, .inr (2, [.ref ta0, .long d9, .int (nI hh), .int (nI ww), .ref ta1, .ref ta2])), (ta0, .inl (kI, 63, .inl voc)), (ta1, .inl (kH, 8, .inr (.inr (.inr (.inr (fun i => some (tar i))))))), (ta2, .inl (kI, 8, .inl b9))]) (cx := [(h0, .inr (2, [.ref ta0, .long d9, .int (nI hh), .int (nI ww), .ref ta1, .ref ta2])), (ta0, .inl (kI, 63, .inl voc)), (ta1, .inl (kH, 8, .inr (.inr (.inr (.inr (fun i => some (tar i))))))), (ta2, .inl (kI, 8, .inl b9))]) (wr := []) (rx := [(h0, .inr (2, [.ref ta0, .long y1, .int (nI hh), .int (nI ww), .ref ta1, .ref ta2])), (ta0, .inl (kI, 63, .inl voc)), (ta1, .inl (kH, 8, .inr (.inr (.inr (.inr (fun i => some (tar i))))))), (ta2, .inl (kI, 8, .inl y3))]) (pl := (gJ kJ 8 65 tar M9 ++ ([] : va_W))) (pl1 := (gJ kJ 8 65 tar y2 ++ ([] : va_W))) hP hD [0, 1, 2, 3] [] rfl rfl (by decide) (by decide) hk9 hFc hP1 hD1
              generalize H1 = H at hP hS ⊢
              have hP : va_P D rcl (([(h0, .inr (2, [.ref ta0, .long y1, .int (nI hh), .int (nI ww), .ref ta1, .ref ta2])), (ta0, .inl (kI, 63, .inl voc)), (ta1, .inl (kH, 8, .inr (.inr (.inr (.inr (fun i => some (tar i))))))), (ta2, .inl (kI, 8, .inl y3))] : va_W) ++ (gJ kJ 8 65 tar y2 ++ ([] : va_W))) H := hP
              have hD : va_D A (([(h0, .inr (2, [.ref ta0, .long y1, .int (nI hh), .int (nI ww), .ref ta1, .ref ta2])), (ta0, .inl (kI, 63, .inl voc)), (ta1, .inl (kH, 8, .inr (.inr (.inr (.inr (fun i => some (tar i))))))), (ta2, .inl (kI, 8, .inl y3))] : va_W) ++ (gJ kJ 8 65 tar y2 ++ ([] : va_W))) := hD
              refine lv_iinc (v := nI (pv + 1)) (lv' := [(1, .int (nI (pv + 1))), (3, .int (nI f7)), (2, .int (nI e5)), (0, .ref h0)]) hx hb dT_minimise_53 hl (k := 3) rfl (nI_add pv 1) (by decide) rfl (fun ls hl => ?_)
              refine lv_goto (tgt := 2) hx hb dT_minimise_56 (by decide) ?_
              exact ihLP2 (pv + 1) y1 y2 y3 _ _ ls (by omega) (by omega) hP hD hS (lv_sub hl [3, 0] rfl)
            · refine W.widen (k := 0) (n := 0) (by omega) (by omega) ?_
              exact W.vret hx hb hr (fun t ht9 hW9 => ⟨⟨(d9, M9, b9), rfl, trivial, by rw [ht9]; exact hP, va_K.moved hW9.alike hK, hD⟩, hS.F ht9⟩) hS.2.2 dT_minimise_46
          · refine lv_iconst (v := -1) hx hb dT_minimise_31 (by decide) ?_
            refine lv_goto (tgt := 40) hx hb dT_minimise_32 (by decide) ?_
            refine lv_istore_n (lv' := [(3, .int (-1)), (2, .int (fdI o5)), (0, .ref h0), (1, .int (nI pv))]) hx hb dT_minimise_40 rfl hl (by decide) rfl (fun ls hl => ?_)
            refine lv_iload_n hx hb dT_minimise_41 rfl (lv_at hl 0 rfl) ?_
            refine lv_iconst (v := -1) hx hb dT_minimise_42 (by decide) ?_
            refine lv_icmp_ne (tgt := 47) hx hb dT_minimise_43 (by decide) (fun c43 => ?_) (fun c43 => ?_)
            · exact absurd rfl c43
            · refine W.widen (k := 0) (n := 0) (by omega) (by omega) ?_
              exact W.vret hx hb hr (fun t ht9 hW9 => ⟨⟨(d9, M9, b9), rfl, trivial, by rw [ht9]; exact hP, va_K.moved hW9.alike hK, hD⟩, hS.F ht9⟩) hS.2.2 dT_minimise_46
        · have c11 : ¬ 12 ≤ pv := mt (nI_leI (a := 12) (b := pv) (by omega) (by omega)).mpr c11
          refine lv_aload_n hx hb dT_minimise_14 rfl (lv_at hl 0 rfl) ?_
          refine vp_callSi (W.runV (C := NT) (As := []) (rest := []) ⟨hx, hb, hml, hown, hts⟩ (cT_thatSavesMost l D kI kJ kZ kG kH h0 ta0 ta1 ta2 tar d9 hh ww voc M9 b9 hh8 hw65) ⟨cB 0 hts hw356 hw6 hw353 (by decide +kernel) ⟨Nat.le_of_ble_eq_true rfl, Nat.le_of_ble_eq_true rfl⟩ rfl rfl, hts _ (gw_t _ hw355), hts _ (gw_t _ hs3)⟩ ⟨fun a U g mk q => ⟨q.1, q.2.calling g mk a⟩, va_recv hK hP (ci := 2) (q0 := 0) rfl rfl, fun U hU hW => ⟨rfl, wd.use hP hK hN hU hW⟩⟩ rfl rfl hl.1 rfl (lv_room (Nat.le_of_ble_eq_true rfl)) dT_minimise_15 ⟨Nat.le_of_ble_eq_true rfl, Nat.le_of_ble_eq_true rfl⟩) (fun r15 hr15 => ?_)
          obtain ⟨o5, rfl, ho5⟩ := hr15
          refine lv_goto (tgt := 25) hx hb dT_minimise_18 (by decide) ?_
          refine lv_istore_n (lv' := [(2, .int (fdI o5)), (0, .ref h0), (1, .int (nI pv))]) hx hb dT_minimise_25 rfl hl (by decide) rfl (fun ls hl => ?_)
          refine lv_iload_n hx hb dT_minimise_26 rfl (lv_at hl 0 rfl) ?_
          refine lv_iconst (v := -1) hx hb dT_minimise_27 (by decide) ?_
          refine lv_icmp_ne (tgt := 35) hx hb dT_minimise_28 (by decide) (fun c28 => ?_) (fun c28 => ?_)
          · obtain ⟨e5, rfl⟩ := fd_ne c28
            have he5 := ho5 e5 rfl
            refine lv_aload_n hx hb dT_minimise_35 rfl (lv_at hl 1 rfl) ?_
            refine lv_iload_n hx hb dT_minimise_36 rfl (lv_at hl 0 rfl) ?_
            refine vp_callSi (W.runV (C := NT) (As := [.int (nI e5)]) (rest := []) ⟨hx, hb, hml, hown, hts⟩ (cT_tightestRow l D kI kJ kZ kG kH h0 ta0 ta1 ta2 tar d9 hh ww voc M9 b9 e5 hh8 hw65 (by omega)) ⟨cB 1 hts hw364 hw6 hw361 (by decide +kernel) ⟨Nat.le_of_ble_eq_true rfl, Nat.le_of_ble_eq_true rfl⟩ rfl rfl, hts _ (gw_t _ hw363), hts _ (gw_t _ hs5)⟩ ⟨fun a U g mk q => ⟨q.1, q.2.calling g mk a⟩, va_recv hK hP (ci := 2) (q0 := 0) rfl rfl, fun U hU hW => ⟨rfl, wd.use hP hK hN hU hW⟩⟩ rfl rfl hl.1 rfl (lv_room (Nat.le_of_ble_eq_true rfl)) dT_minimise_37 ⟨Nat.le_of_ble_eq_true rfl, Nat.le_of_ble_eq_true rfl⟩) (fun r37 hr37 => ?_)
            obtain ⟨o7, rfl, ho7⟩ := hr37
            refine lv_istore_n (lv' := [(3, .int (fdI o7)), (2, .int (nI e5)), (0, .ref h0), (1, .int (nI pv))]) hx hb dT_minimise_40 rfl hl (by decide) rfl (fun ls hl => ?_)
            refine lv_iload_n hx hb dT_minimise_41 rfl (lv_at hl 0 rfl) ?_
            refine lv_iconst (v := -1) hx hb dT_minimise_42 (by decide) ?_
            refine lv_icmp_ne (tgt := 47) hx hb dT_minimise_43 (by decide) (fun c43 => ?_) (fun c43 => ?_)
            · obtain ⟨f7, rfl⟩ := fd_ne c43
              have hf7 := ho7 f7 rfl
              refine lv_aload_n hx hb dT_minimise_47 rfl (lv_at hl 2 rfl) ?_
              refine lv_iload_n hx hb dT_minimise_48 rfl (lv_at hl 0 rfl) ?_
              refine lv_iload_n hx hb dT_minimise_49 rfl (lv_at hl 1 rfl) ?_
              have hPc := va_P.part (X := [(h0, .inr (2, [.ref ta0, .long d9, .int (nI hh), .int (nI ww), .ref ta1, .ref ta2])), (ta0, .inl (kI, 63, .inl voc)), (ta1, .inl (kH, 8, .inr (.inr (.inr (.inr (fun i => some (tar i))))))), (ta2, .inl (kI, 8, .inl b9))]) (cx := [(h0, .inr (2, [.ref ta0, .long d9, .int (nI hh), .int (nI ww), .ref ta1, .ref ta2])), (ta0, .inl (kI, 63, .inl voc)), (ta1, .inl (kH, 8, .inr (.inr (.inr (.inr (fun i => some (tar i))))))), (ta2, .inl (kI, 8, .inl b9))]) (pl := (gJ kJ 8 65 tar M9 ++ ([] : va_W))) hP [0, 1, 2, 3] rfl
              have hDc := va_D.part (X := [(h0, .inr (2, [.ref ta0, .long d9, .int (nI hh), .int (nI ww), .ref ta1, .ref ta2])), (ta0, .inl (kI, 63, .inl voc)), (ta1, .inl (kH, 8, .inr (.inr (.inr (.inr (fun i => some (tar i))))))), (ta2, .inl (kI, 8, .inl b9))]) (cx := [(h0, .inr (2, [.ref ta0, .long d9, .int (nI hh), .int (nI ww), .ref ta1, .ref ta2])), (ta0, .inl (kI, 63, .inl voc)), (ta1, .inl (kH, 8, .inr (.inr (.inr (.inr (fun i => some (tar i))))))), (ta2, .inl (kI, 8, .inl b9))]) (pl := (gJ kJ 8 65 tar M9 ++ ([] : va_W))) hD [0, 1, 2, 3] (by decide) rfl
              have hFc := va_freeP (X := [(h0, .inr (2, [.ref ta0, .long d9, .int (nI hh), .int (nI ww), .ref ta1, .ref ta2])), (ta0, .inl (kI, 63, .inl voc)), (ta1, .inl (kH, 8, .inr (.inr (.inr (.inr (fun i => some (tar i))))))), (ta2, .inl (kI, 8, .inl b9))]) (cx := [(h0, .inr (2, [.ref ta0, .long d9, .int (nI hh), .int (nI ww), .ref ta1, .ref ta2])), (ta0, .inl (kI, 63, .inl voc)), (ta1, .inl (kH, 8, .inr (.inr (.inr (.inr (fun i => some (tar i))))))), (ta2, .inl (kI, 8, .inl b9))]) (pl := (gJ kJ 8 65 tar M9 ++ ([] : va_W))) hD hS hA [0, 1, 2, 3] rfl
              refine va_callv (va_runV (C := NT) (As := [.int (nI f7), .int (nI e5)]) (rest := []) ⟨hx, hb, hml, hown, hts⟩ (cT_pivot l D kI kJ kZ kG kH h0 ta0 ta1 ta2 tar d9 hh ww voc M9 b9 f7 e5 hh8 hw65 (by omega) (by omega) H.size) ⟨cB 2 hts hw372 hw6 hw369 (by decide +kernel) ⟨Nat.le_of_ble_eq_true rfl, Nat.le_of_ble_eq_true rfl⟩ rfl rfl, hts _ (gw_t _ hw371), hts _ (gw_t _ hs7)⟩ ⟨fun a U g mk q => ⟨q.1, q.2.1, q.2.2.1.calling g mk a, q.2.2.2⟩, va_recv hK hPc (ci := 2) (q0 := 0) rfl rfl, fun U hU hW => ⟨rfl, by rw [hU], wd.use hPc hK hN hU hW, hDc.weaken (fun _ _ _ _ => trivial)⟩⟩ rfl rfl hl.1 rfl (lv_room (Nat.le_of_ble_eq_true rfl)) dT_minimise_50 ⟨Nat.le_of_ble_eq_true rfl, Nat.le_of_ble_eq_true rfl⟩) hS (fun q _ h => hFc q h) hFc (fun u9 t9 H1 locs ht9 hvm9 hr2 hB9 hz9 hk9 hS => ?_)
              obtain ⟨y1, y2, y3⟩ := u9
              obtain ⟨hP1, -, hD1⟩ := hB9
              rw [ht9] at hP1
              obtain ⟨hP, hD⟩ := va_joinP (X := [(h0, .inr (2, [.ref ta0, .long d9, .int (nI hh), .int (nI ww), .ref ta1, .ref ta2])), (ta0, .inl (kI, 63, .inl voc)), (ta1, .inl (kH, 8, .inr (.inr (.inr (.inr (fun i => some (tar i))))))), (ta2, .inl (kI, 8, .inl b9))]) (cx := [(h0, .inr (2, [.ref ta0, .long d9, .int (nI hh), .int (nI ww), .ref ta1, .ref ta2])), (ta0, .inl (kI, 63, .inl voc)), (ta1, .inl (kH, 8, .inr (.inr (.inr (.inr (fun i => some (tar i))))))), (ta2, .inl (kI, 8, .inl b9))]) (wr := []) (rx := [(h0, .inr (2, [.ref ta0, .long y1, .int (nI hh), .int (nI ww), .ref ta1, .ref ta2])), (ta0, .inl (kI, 63, .inl voc)), (ta1, .inl (kH, 8, .inr (.inr (.inr (.inr (fun i => some (tar i))))))), (ta2, .inl (kI, 8, .inl y3))]) (pl := (gJ kJ 8 65 tar M9 ++ ([] : va_W))) (pl1 := (gJ kJ 8 65 tar y2 ++ ([] : va_W))) hP hD [0, 1, 2, 3] [] rfl rfl (by decide) (by decide) hk9 hFc hP1 hD1
              generalize H1 = H at hP hS ⊢
              have hP : va_P D rcl (([(h0, .inr (2, [.ref ta0, .long y1, .int (nI hh), .int (nI ww), .ref ta1, .ref ta2])), (ta0, .inl (kI, 63, .inl voc)), (ta1, .inl (kH, 8, .inr (.inr (.inr (.inr (fun i => some (tar i))))))), (ta2, .inl (kI, 8, .inl y3))] : va_W) ++ (gJ kJ 8 65 tar y2 ++ ([] : va_W))) H := hP
              have hD : va_D A (([(h0, .inr (2, [.ref ta0, .long y1, .int (nI hh), .int (nI ww), .ref ta1, .ref ta2])), (ta0, .inl (kI, 63, .inl voc)), (ta1, .inl (kH, 8, .inr (.inr (.inr (.inr (fun i => some (tar i))))))), (ta2, .inl (kI, 8, .inl y3))] : va_W) ++ (gJ kJ 8 65 tar y2 ++ ([] : va_W))) := hD
              refine lv_iinc (v := nI (pv + 1)) (lv' := [(1, .int (nI (pv + 1))), (3, .int (nI f7)), (2, .int (nI e5)), (0, .ref h0)]) hx hb dT_minimise_53 hl (k := 3) rfl (nI_add pv 1) (by decide) rfl (fun ls hl => ?_)
              refine lv_goto (tgt := 2) hx hb dT_minimise_56 (by decide) ?_
              exact ihLP2 (pv + 1) y1 y2 y3 _ _ ls (by omega) (by omega) hP hD hS (lv_sub hl [3, 0] rfl)
            · refine W.widen (k := 0) (n := 0) (by omega) (by omega) ?_
              exact W.vret hx hb hr (fun t ht9 hW9 => ⟨⟨(d9, M9, b9), rfl, trivial, by rw [ht9]; exact hP, va_K.moved hW9.alike hK, hD⟩, hS.F ht9⟩) hS.2.2 dT_minimise_46
          · refine lv_iconst (v := -1) hx hb dT_minimise_31 (by decide) ?_
            refine lv_goto (tgt := 40) hx hb dT_minimise_32 (by decide) ?_
            refine lv_istore_n (lv' := [(3, .int (-1)), (2, .int (fdI o5)), (0, .ref h0), (1, .int (nI pv))]) hx hb dT_minimise_40 rfl hl (by decide) rfl (fun ls hl => ?_)
            refine lv_iload_n hx hb dT_minimise_41 rfl (lv_at hl 0 rfl) ?_
            refine lv_iconst (v := -1) hx hb dT_minimise_42 (by decide) ?_
            refine lv_icmp_ne (tgt := 47) hx hb dT_minimise_43 (by decide) (fun c43 => ?_) (fun c43 => ?_)
            · exact absurd rfl c43
            · refine W.widen (k := 0) (n := 0) (by omega) (by omega) ?_
              exact W.vret hx hb hr (fun t ht9 hW9 => ⟨⟨(d9, M9, b9), rfl, trivial, by rw [ht9]; exact hP, va_K.moved hW9.alike hK, hD⟩, hS.F ht9⟩) hS.2.2 dT_minimise_46
  refine lv_iconst (v := 0) hx hb dT_minimise_0 (by decide) ?_
  refine lv_istore_n (lv' := [(1, .int 0), (0, .ref h0)]) hx hb dT_minimise_1 rfl hl (by decide) rfl (fun ls hl => ?_)
  exact LP2 _ 0 dn M bz _ _ ls (Nat.lt_succ_self _) (by omega) hP hD hS (lv_sub hl [1, 0] rfl)

set_option maxHeartbeats 4000000 in
set_option maxRecDepth 100000 in
theorem cT_isAllServed (l : Launch) (D : va_G) (kI kJ kZ kG kH : ClassId) (h0 : Nat) (ta0 : Nat) (ta1 : Nat) (ta2 : Nat) (tar : Nat → Nat) (dn : Int64) (hh : Nat) (ww : Nat) (voc : Nat → Int32) (M : Nat → Nat → Int64) (bz : Nat → Int32) (hh8 : hh ≤ 8) (hw65 : ww ≤ 65) : Met l yT_isAllServed wT_isAllServed (rmL 0 0 0) (va_Pc [.ref h0] (fun U => wd D kI kJ kZ kG kH (([(h0, .inr (2, [.ref ta0, .long dn, .int (nI hh), .int (nI ww), .ref ta1, .ref ta2])), (ta0, .inl (kI, 63, .inl voc)), (ta1, .inl (kH, 8, .inr (.inr (.inr (.inr (fun i => some (tar i))))))), (ta2, .inl (kI, 8, .inl bz))] : va_W) ++ (gJ kJ 8 65 tar M ++ ([] : va_W))) U)) (vp_Si (fun r : Int32 => (r = 0 ∨ r = 1) ∧ (hh ≤ 2 → r = 1))) 0 0 (fun _ => False) := by
  refine Met.ofW (cc := bT_isAllServed) (maxL := 2) (ret := (some .boolean)) (by decide) rfl ?_
  intro p e s m args below meth c s₁ B hml hv
  obtain ⟨rfl, hP, hK, hN⟩ := hv
  have hx := B.exec
  have hb := B.bytes
  have hr := B.returns
  have hts := atoms_spec (ws := wT_isAllServed) B.pre
  have hown : s.vm.findClass NT = some m.cls := findClass_of_methodNamed B.named
  have hlocks := B.notSynchronized
  have hl := lv_entry ([.ref h0]) (n := 2) (Nat.le_of_ble_eq_true rfl)
  rw [lg_entry_eq]
  generalize (lg_sl ([.ref h0]) ++ List.replicate (2 - (lg_sl ([.ref h0])).length) Slot.unset).toArray = ls at hl ⊢
  have hl : lv_has ls 2 [(0, .ref h0)] := hl
  have LP2 : ∀ (dd : Nat) (k : Nat) (ls : Array Slot), hh - k < dd → (2 ≤ k ∧ k ≤ 8) → lv_has ls 2 [(0, .ref h0), (1, .int (nI k))] → W p l e (headSpec wT_isAllServed (rmL 0 0 0)).room s m ([.ref h0] : List Value).toArray below meth c s.heap [] 0 0 (MQ below (vp_Si (fun r : Int32 => (r = 0 ∨ r = 1) ∧ (hh ≤ 2 → r = 1))) ([.ref h0] : List Value).toArray s 0 0 (fun _ => False)) (F0 m 2 ls []) := by
    intro dd
    induction dd with
    | zero =>
      intro k ls hm
      exact absurd hm (Nat.not_lt_zero _)
    | succ dd ihLP2 =>
      intro k ls hm hk hl
      refine lv_iload_n hx hb dT_isAllServed_2 rfl (lv_at hl 1 rfl) ?_
      refine lv_aload_n hx hb dT_isAllServed_3 rfl (lv_at hl 0 rfl) ?_
      refine va_get (D := D) (cl := rcl) (ci := 2) (v := .int (nI hh)) (C := NT) (T := TT) (N := 6) hx hb hts (fun w h => gw_t w (uwT w h)) hown hK hP 0 rfl rfl 2 (by decide) (hts _ (gw_t _ hw117)) (fun _ h9 => h9) rfl dT_isAllServed_4 ?_
      refine lv_icmp_ge (tgt := 40) hx hb dT_isAllServed_7 (by decide) (fun c7 => ?_) (fun c7 => ?_)
      · have c7 : hh ≤ k := (nI_leI (a := hh) (b := k) (by omega) (by omega)).mp c7
        refine lv_iconst (v := 1) hx hb dT_isAllServed_40 (by decide) ?_
        exact W.zret (v := 1) (ty := .boolean) hx hb hr (by decide) (fun t ht9 hW9 => ⟨_, rfl, ⟨Or.inr rfl, fun _ => rfl⟩, ht9⟩) t_nil dT_isAllServed_41
      · have c7 : ¬ hh ≤ k := mt (nI_leI (a := hh) (b := k) (by omega) (by omega)).mpr c7
        refine lv_aload_n hx hb dT_isAllServed_10 rfl (lv_at hl 0 rfl) ?_
        refine va_get (D := D) (cl := rcl) (ci := 2) (v := .ref ta2) (C := NT) (T := TT) (N := 6) hx hb hts (fun w h => gw_t w (uwT w h)) hown hK hP 0 rfl rfl 5 (by decide) (hts _ (gw_t _ hw120)) (fun _ h9 => h9) rfl dT_isAllServed_11 ?_
        refine lv_iload_n hx hb dT_isAllServed_14 rfl (lv_at hl 1 rfl) ?_
        refine ra_i (k := k) hx hb hK hP 3 0 rfl rfl (by omega) (by omega) dT_isAllServed_15 ?_
        refine lv_if_ge (tgt := 34) hx hb dT_isAllServed_16 (by decide) (fun c16 => ?_) (fun c16 => ?_)
        · refine lv_iinc (v := nI (k + 1)) (lv' := [(1, .int (nI (k + 1))), (0, .ref h0)]) hx hb dT_isAllServed_34 hl (k := 1) rfl (nI_add k 1) (by decide) rfl (fun ls hl => ?_)
          refine lv_goto (tgt := 2) hx hb dT_isAllServed_37 (by decide) ?_
          exact ihLP2 (k + 1) ls (by omega) (by omega) (lv_sub hl [1, 0] rfl)
        · refine lv_aload_n hx hb dT_isAllServed_19 rfl (lv_at hl 0 rfl) ?_
          refine va_get (D := D) (cl := rcl) (ci := 2) (v := .ref ta1) (C := NT) (T := TT) (N := 6) hx hb hts (fun w h => gw_t w (uwT w h)) hown hK hP 0 rfl rfl 4 (by decide) (hts _ (gw_t _ hw119)) (fun _ h9 => h9) rfl dT_isAllServed_20 ?_
          refine lv_iload_n hx hb dT_isAllServed_23 rfl (lv_at hl 1 rfl) ?_
          refine ra_a (k := k) (q := tar k) hx hb hK hP 2 4 rfl rfl (by omega) (by omega) (rfl) dT_isAllServed_24 ?_
          refine lv_iconst (v := 0) hx hb dT_isAllServed_25 (by decide) ?_
          refine ra_l (k := 0) hx hb hK hP (4 + k) 1 (gr_get (X := ([(h0, .inr (2, [.ref ta0, .long dn, .int (nI hh), .int (nI ww), .ref ta1, .ref ta2])), (ta0, .inl (kI, 63, .inl voc)), (ta1, .inl (kH, 8, .inr (.inr (.inr (.inr (fun i => some (tar i))))))), (ta2, .inl (kI, 8, .inl bz))] : va_W)) (by omega)) rfl (by omega) (by omega) dT_isAllServed_26 ?_
          refine lv_lconst (v := 0) hx hb dT_isAllServed_27 (by decide) ?_
          refine W.lcmp hx hb dT_isAllServed_28 ?_
          refine lv_if_le (tgt := 34) hx hb dT_isAllServed_29 (by decide) (fun c29 => ?_) (fun c29 => ?_)
          · have c29 := (lg_cmp_le (M k 0) 0).mp c29
            refine lv_iinc (v := nI (k + 1)) (lv' := [(1, .int (nI (k + 1))), (0, .ref h0)]) hx hb dT_isAllServed_34 hl (k := 1) rfl (nI_add k 1) (by decide) rfl (fun ls hl => ?_)
            refine lv_goto (tgt := 2) hx hb dT_isAllServed_37 (by decide) ?_
            exact ihLP2 (k + 1) ls (by omega) (by omega) (lv_sub hl [1, 0] rfl)
          · have c29 := mt (lg_cmp_le (M k 0) 0).mpr c29
            refine lv_iconst (v := 0) hx hb dT_isAllServed_32 (by decide) ?_
            exact W.zret (v := 0) (ty := .boolean) hx hb hr (by decide) (fun t ht9 hW9 => ⟨_, rfl, ⟨Or.inl rfl, fun q => absurd q (by omega)⟩, ht9⟩) t_nil dT_isAllServed_33
  refine lv_iconst (v := 2) hx hb dT_isAllServed_0 (by decide) ?_
  refine lv_istore_n (lv' := [(1, .int 2), (0, .ref h0)]) hx hb dT_isAllServed_1 rfl hl (by decide) rfl (fun ls hl => ?_)
  exact LP2 _ 2 ls (Nat.lt_succ_self _) (by omega) (lv_sub hl [1, 0] rfl)

set_option maxHeartbeats 4000000 in
set_option maxRecDepth 100000 in
theorem cT_costTop (l : Launch) (D : va_G) (kI kJ kZ kG kH : ClassId) (h0 : Nat) (ta0 : Nat) (ta1 : Nat) (ta2 : Nat) (tar : Nat → Nat) (dn : Int64) (hh : Nat) (ww : Nat) (voc : Nat → Int32) (M : Nat → Nat → Int64) (bz : Nat → Int32) : Met l yT_costTop wT_costTop (rmL 0 0 0) (va_Pc [.ref h0] (fun U => wd D kI kJ kZ kG kH (([(h0, .inr (2, [.ref ta0, .long dn, .int (nI hh), .int (nI ww), .ref ta1, .ref ta2])), (ta0, .inl (kI, 63, .inl voc)), (ta1, .inl (kH, 8, .inr (.inr (.inr (.inr (fun i => some (tar i))))))), (ta2, .inl (kI, 8, .inl bz))] : va_W) ++ (gJ kJ 8 65 tar M ++ ([] : va_W))) U)) (vp_Sl (fun r : Int64 => True)) 0 0 (fun _ => False) := by
  refine Met.ofW (cc := bT_costTop) (maxL := 1) (ret := (some .long)) (by decide) rfl ?_
  intro p e s m args below meth c s₁ B hml hv
  obtain ⟨rfl, hP, hK, hN⟩ := hv
  have hx := B.exec
  have hb := B.bytes
  have hr := B.returns
  have hts := atoms_spec (ws := wT_costTop) B.pre
  have hown : s.vm.findClass NT = some m.cls := findClass_of_methodNamed B.named
  have hlocks := B.notSynchronized
  have hl := lv_entry ([.ref h0]) (n := 1) (Nat.le_of_ble_eq_true rfl)
  rw [lg_entry_eq]
  generalize (lg_sl ([.ref h0]) ++ List.replicate (1 - (lg_sl ([.ref h0])).length) Slot.unset).toArray = ls at hl ⊢
  have hl : lv_has ls 1 [(0, .ref h0)] := hl
  refine lv_aload_n hx hb dT_costTop_0 rfl (lv_at hl 0 rfl) ?_
  refine va_get (D := D) (cl := rcl) (ci := 2) (v := .ref ta1) (C := NT) (T := TT) (N := 6) hx hb hts (fun w h => gw_t w (uwT w h)) hown hK hP 0 rfl rfl 4 (by decide) (hts _ (gw_t _ hw119)) (fun _ h9 => h9) rfl dT_costTop_1 ?_
  refine lv_iconst (v := 0) hx hb dT_costTop_4 (by decide) ?_
  refine ra_a (k := 0) (q := tar 0) hx hb hK hP 2 4 rfl rfl (by omega) (by omega) (rfl) dT_costTop_5 ?_
  refine lv_iconst (v := 0) hx hb dT_costTop_6 (by decide) ?_
  refine ra_l (k := 0) hx hb hK hP (4 + 0) 1 (gr_get (X := ([(h0, .inr (2, [.ref ta0, .long dn, .int (nI hh), .int (nI ww), .ref ta1, .ref ta2])), (ta0, .inl (kI, 63, .inl voc)), (ta1, .inl (kH, 8, .inr (.inr (.inr (.inr (fun i => some (tar i))))))), (ta2, .inl (kI, 8, .inl bz))] : va_W)) (by omega)) rfl (by omega) (by omega) dT_costTop_7 ?_
  refine lv_lneg hx hb dT_costTop_8 ?_
  refine lv_topl (fun v1 ev1 => ?_)
  exact W.lret (v := v1) hx hb hr (fun t ht9 hW9 => ⟨_, rfl, trivial, ht9⟩) t_nil dT_costTop_9

set_option maxHeartbeats 4000000 in
set_option maxRecDepth 100000 in
theorem cT_costBottom (l : Launch) (D : va_G) (kI kJ kZ kG kH : ClassId) (h0 : Nat) (ta0 : Nat) (ta1 : Nat) (ta2 : Nat) (tar : Nat → Nat) (dn : Int64) (hh : Nat) (ww : Nat) (voc : Nat → Int32) (M : Nat → Nat → Int64) (bz : Nat → Int32) : Met l yT_costBottom wT_costBottom (rmL 0 0 0) (va_Pc [.ref h0] (fun U => wd D kI kJ kZ kG kH (([(h0, .inr (2, [.ref ta0, .long dn, .int (nI hh), .int (nI ww), .ref ta1, .ref ta2])), (ta0, .inl (kI, 63, .inl voc)), (ta1, .inl (kH, 8, .inr (.inr (.inr (.inr (fun i => some (tar i))))))), (ta2, .inl (kI, 8, .inl bz))] : va_W) ++ (gJ kJ 8 65 tar M ++ ([] : va_W))) U)) (vp_Sl (fun r : Int64 => True)) 0 0 (fun _ => False) := by
  refine Met.ofW (cc := bT_costBottom) (maxL := 1) (ret := (some .long)) (by decide) rfl ?_
  intro p e s m args below meth c s₁ B hml hv
  obtain ⟨rfl, hP, hK, hN⟩ := hv
  have hx := B.exec
  have hb := B.bytes
  have hr := B.returns
  have hts := atoms_spec (ws := wT_costBottom) B.pre
  have hown : s.vm.findClass NT = some m.cls := findClass_of_methodNamed B.named
  have hlocks := B.notSynchronized
  have hl := lv_entry ([.ref h0]) (n := 1) (Nat.le_of_ble_eq_true rfl)
  rw [lg_entry_eq]
  generalize (lg_sl ([.ref h0]) ++ List.replicate (1 - (lg_sl ([.ref h0])).length) Slot.unset).toArray = ls at hl ⊢
  have hl : lv_has ls 1 [(0, .ref h0)] := hl
  refine lv_aload_n hx hb dT_costBottom_0 rfl (lv_at hl 0 rfl) ?_
  refine va_get (D := D) (cl := rcl) (ci := 2) (v := .long dn) (C := NT) (T := TT) (N := 6) hx hb hts (fun w h => gw_t w (uwT w h)) hown hK hP 0 rfl rfl 1 (by decide) (hts _ (gw_t _ hw115)) (fun _ h9 => h9) rfl dT_costBottom_1 ?_
  refine lv_ldc2 (v := 2048) (own := NT) hx hb hown (hts _ (gw_t _ hw346)) dT_costBottom_4 ?_
  refine lv_lmul hx hb dT_costBottom_7 ?_
  refine lv_topl (fun v1 ev1 => ?_)
  exact W.lret (v := v1) hx hb hr (fun t ht9 hW9 => ⟨_, rfl, trivial, ht9⟩) t_nil dT_costBottom_8

set_option maxHeartbeats 4000000 in
set_option maxRecDepth 100000 in
theorem cT_layStart (l : Launch) (D : va_G) (kI kJ kZ kG kH : ClassId) (h0 : Nat) (ta0 : Nat) (ta1 : Nat) (ta2 : Nat) (tar : Nat → Nat) (dn : Int64) (hh : Nat) (ww : Nat) (voc : Nat → Int32) (M : Nat → Nat → Int64) (bz : Nat → Int32) (se : Nat) (vn : Int32) (hh8 : hh ≤ 8) (hw65 : ww ≤ 65) (hse : se < 64) (sz : Nat) : Met l yT_layStart wT_layStart (rmL 1 0 0) (va_Pc [.ref h0, .int (nI se), .int vn] (fun U => U.heap.size = sz ∧ wd D kI kJ kZ kG kH (([(h0, .inr (2, [.ref ta0, .long dn, .int (nI hh), .int (nI ww), .ref ta1, .ref ta2])), (ta0, .inl (kI, 63, .inl voc)), (ta1, .inl (kH, 8, .inr (.inr (.inr (.inr (fun i => some (tar i))))))), (ta2, .inl (kI, 8, .inl bz))] : va_W) ++ (gJ kJ 8 65 tar M ++ ([] : va_W))) U ∧ va_D (fun _ => True) (([(h0, .inr (2, [.ref ta0, .long dn, .int (nI hh), .int (nI ww), .ref ta1, .ref ta2])), (ta0, .inl (kI, 63, .inl voc)), (ta1, .inl (kH, 8, .inr (.inr (.inr (.inr (fun i => some (tar i))))))), (ta2, .inl (kI, 8, .inl bz))] : va_W) ++ (gJ kJ 8 65 tar M ++ ([] : va_W))))) (va_Qv (fun v9 : (Nat → Nat → Int64) × (Nat → Int32) => True) (fun v9 t => va_P D rcl (([(h0, .inr (2, [.ref ta0, .long dn, .int (nI hh), .int (nI ww), .ref ta1, .ref ta2])), (ta0, .inl (kI, 63, .inl voc)), (ta1, .inl (kH, 8, .inr (.inr (.inr (.inr (fun i => some (tar i))))))), (ta2, .inl (kI, 8, .inl v9.2))] : va_W) ++ (gJ kJ 8 65 tar v9.1 ++ ([] : va_W))) t.heap ∧ va_K D rcl (TY kI kJ kZ kG kH) t ∧ va_D (va_A (([(h0, .inr (2, [.ref ta0, .long dn, .int (nI hh), .int (nI ww), .ref ta1, .ref ta2])), (ta0, .inl (kI, 63, .inl voc)), (ta1, .inl (kH, 8, .inr (.inr (.inr (.inr (fun i => some (tar i))))))), (ta2, .inl (kI, 8, .inl bz))] : va_W) ++ (gJ kJ 8 65 tar M ++ ([] : va_W))) sz) (([(h0, .inr (2, [.ref ta0, .long dn, .int (nI hh), .int (nI ww), .ref ta1, .ref ta2])), (ta0, .inl (kI, 63, .inl voc)), (ta1, .inl (kH, 8, .inr (.inr (.inr (.inr (fun i => some (tar i))))))), (ta2, .inl (kI, 8, .inl v9.2))] : va_W) ++ (gJ kJ 8 65 tar v9.1 ++ ([] : va_W)))) (va_A (([(h0, .inr (2, [.ref ta0, .long dn, .int (nI hh), .int (nI ww), .ref ta1, .ref ta2])), (ta0, .inl (kI, 63, .inl voc)), (ta1, .inl (kH, 8, .inr (.inr (.inr (.inr (fun i => some (tar i))))))), (ta2, .inl (kI, 8, .inl bz))] : va_W) ++ (gJ kJ 8 65 tar M ++ ([] : va_W))) sz)) 0 0 (va_A (([(h0, .inr (2, [.ref ta0, .long dn, .int (nI hh), .int (nI ww), .ref ta1, .ref ta2])), (ta0, .inl (kI, 63, .inl voc)), (ta1, .inl (kH, 8, .inr (.inr (.inr (.inr (fun i => some (tar i))))))), (ta2, .inl (kI, 8, .inl bz))] : va_W) ++ (gJ kJ 8 65 tar M ++ ([] : va_W))) sz) := by
  refine Met.ofW (cc := bT_layStart) (maxL := 4) (ret := none) (by decide) rfl ?_
  intro p e s m args below meth c s₁ B hml hv
  obtain ⟨rfl, hsz, ⟨hP, hK, hN⟩, hD0⟩ := hv
  have hx := B.exec
  have hb := B.bytes
  have hr := B.returns
  have hts := atoms_spec (ws := wT_layStart) B.pre
  have hown : s.vm.findClass NT = some m.cls := findClass_of_methodNamed B.named
  have hlocks := B.notSynchronized
  subst hsz
  have hD := hD0.self (sz := s.heap.size)
  generalize hAe : va_A (([(h0, .inr (2, [.ref ta0, .long dn, .int (nI hh), .int (nI ww), .ref ta1, .ref ta2])), (ta0, .inl (kI, 63, .inl voc)), (ta1, .inl (kH, 8, .inr (.inr (.inr (.inr (fun i => some (tar i))))))), (ta2, .inl (kI, 8, .inl bz))] : va_W) ++ (gJ kJ 8 65 tar M ++ ([] : va_W))) s.heap.size = A at hD ⊢
  have hA : ∀ q : Nat, s.heap.size ≤ q → A q := fun q h => by rw [← hAe]; exact Or.inr h
  have hS : va_S A s.heap s.heap [] := va_S.rf
  have hP : va_P D rcl (([(h0, .inr (2, [.ref ta0, .long dn, .int (nI hh), .int (nI ww), .ref ta1, .ref ta2])), (ta0, .inl (kI, 63, .inl voc)), (ta1, .inl (kH, 8, .inr (.inr (.inr (.inr (fun i => some (tar i))))))), (ta2, .inl (kI, 8, .inl bz))] : va_W) ++ (gJ kJ 8 65 tar M ++ ([] : va_W))) s.heap := hP
  have hl := lv_entry ([.ref h0, .int (nI se), .int vn]) (n := 4) (Nat.le_of_ble_eq_true rfl)
  rw [lg_entry_eq]
  generalize (lg_sl ([.ref h0, .int (nI se), .int vn]) ++ List.replicate (4 - (lg_sl ([.ref h0, .int (nI se), .int vn])).length) Slot.unset).toArray = ls at hl ⊢
  have hl : lv_has ls 4 [(0, .ref h0), (1, .int (nI se)), (2, .int vn)] := hl
  have LP54 : ∀ (dd : Nat) (k : Nat) (M9 : Nat → Nat → Int64) (b9 : Nat → Int32) (H : Heap) (locs : List Loc) (ls : Array Slot), hh - k < dd → (2 ≤ k ∧ k ≤ 8) → va_P D rcl (([(h0, .inr (2, [.ref ta0, .long dn, .int (nI hh), .int (nI ww), .ref ta1, .ref ta2])), (ta0, .inl (kI, 63, .inl voc)), (ta1, .inl (kH, 8, .inr (.inr (.inr (.inr (fun i => some (tar i))))))), (ta2, .inl (kI, 8, .inl b9))] : va_W) ++ (gJ kJ 8 65 tar M9 ++ ([] : va_W))) H → va_D A (([(h0, .inr (2, [.ref ta0, .long dn, .int (nI hh), .int (nI ww), .ref ta1, .ref ta2])), (ta0, .inl (kI, 63, .inl voc)), (ta1, .inl (kH, 8, .inr (.inr (.inr (.inr (fun i => some (tar i))))))), (ta2, .inl (kI, 8, .inl b9))] : va_W) ++ (gJ kJ 8 65 tar M9 ++ ([] : va_W))) → va_S A s.heap H locs → lv_has ls 4 [(0, .ref h0), (1, .int (nI se)), (2, .int vn), (3, .int (nI k))] → W p l e (headSpec wT_layStart (rmL 1 0 0)).room s m ([.ref h0, .int (nI se), .int vn] : List Value).toArray below meth c H locs 0 0 (MQ below (va_Qv (fun v9 : (Nat → Nat → Int64) × (Nat → Int32) => True) (fun v9 t => va_P D rcl (([(h0, .inr (2, [.ref ta0, .long dn, .int (nI hh), .int (nI ww), .ref ta1, .ref ta2])), (ta0, .inl (kI, 63, .inl voc)), (ta1, .inl (kH, 8, .inr (.inr (.inr (.inr (fun i => some (tar i))))))), (ta2, .inl (kI, 8, .inl v9.2))] : va_W) ++ (gJ kJ 8 65 tar v9.1 ++ ([] : va_W))) t.heap ∧ va_K D rcl (TY kI kJ kZ kG kH) t ∧ va_D A (([(h0, .inr (2, [.ref ta0, .long dn, .int (nI hh), .int (nI ww), .ref ta1, .ref ta2])), (ta0, .inl (kI, 63, .inl voc)), (ta1, .inl (kH, 8, .inr (.inr (.inr (.inr (fun i => some (tar i))))))), (ta2, .inl (kI, 8, .inl v9.2))] : va_W) ++ (gJ kJ 8 65 tar v9.1 ++ ([] : va_W)))) A) ([.ref h0, .int (nI se), .int vn] : List Value).toArray s 0 0 A) (F0 m 54 ls []) := by
    intro dd
    induction dd with
    | zero =>
      intro k M9 b9 H locs ls hm
      exact absurd hm (Nat.not_lt_zero _)
    | succ dd ihLP54 =>
      intro k M9 b9 H locs ls hm hk hP hD hS hl
      refine lv_iload_n hx hb dT_layStart_54 rfl (lv_at hl 3 rfl) ?_
      refine lv_aload_n hx hb dT_layStart_55 rfl (lv_at hl 0 rfl) ?_
      refine va_get (D := D) (cl := rcl) (ci := 2) (v := .int (nI hh)) (C := NT) (T := TT) (N := 6) hx hb hts (fun w h => gw_t w (uwT w h)) hown hK hP 0 rfl rfl 2 (by decide) (hts _ (gw_t _ hw117)) (fun _ h9 => h9) rfl dT_layStart_56 ?_
      refine lv_icmp_ge (tgt := 108) hx hb dT_layStart_59 (by decide) (fun c59 => ?_) (fun c59 => ?_)
      · have c59 : hh ≤ k := (nI_leI (a := hh) (b := k) (by omega) (by omega)).mp c59
        refine W.widen (k := 0) (n := 0) (by omega) (by omega) ?_
        exact W.vret hx hb hr (fun t ht9 hW9 => ⟨⟨(M9, b9), rfl, trivial, by rw [ht9]; exact hP, va_K.moved hW9.alike hK, hD⟩, hS.F ht9⟩) hS.2.2 dT_layStart_108
      · have c59 : ¬ hh ≤ k := mt (nI_leI (a := hh) (b := k) (by omega) (by omega)).mpr c59
        refine lv_aload_n hx hb dT_layStart_62 rfl (lv_at hl 0 rfl) ?_
        refine va_get (D := D) (cl := rcl) (ci := 2) (v := .ref ta1) (C := NT) (T := TT) (N := 6) hx hb hts (fun w h => gw_t w (uwT w h)) hown hK hP 0 rfl rfl 4 (by decide) (hts _ (gw_t _ hw119)) (fun _ h9 => h9) rfl dT_layStart_63 ?_
        refine lv_iload_n hx hb dT_layStart_66 rfl (lv_at hl 3 rfl) ?_
        refine ra_a (k := k) (q := tar k) hx hb hK hP 2 4 rfl rfl (by omega) (by omega) (rfl) dT_layStart_67 ?_
        refine lv_iconst (v := 0) hx hb dT_layStart_68 (by decide) ?_
        refine lv_iload_n hx hb dT_layStart_69 rfl (lv_at hl 1 rfl) ?_
        refine lv_iload_n hx hb dT_layStart_70 rfl (lv_at hl 3 rfl) ?_
        refine lv_iconst (v := 2) hx hb dT_layStart_71 (by decide) ?_
        refine lv_isub hx hb dT_layStart_72 ?_
        refine lc_i (y := nI (k - 2)) (pk_sub (a := k) (b := 2) (by omega)) ?_
        refine vp_callSi ((va_runSN (As := [.int (nI se), .int (nI (k - 2))]) (rest := [.int 0, .ref (tar k)]) ⟨hx, hb, hml, hown, hts⟩ (cC_isIn l se (k - 2) (by omega) (by omega)) ⟨va_cnB (host := "RoundColumns") 2 hts (gw_good gw_t (gw_c hw341 gw_s)) rfl rfl rfl (hN.1 _ (by decide +kernel)) (hts _ (gw_t _ hw1)) (by decide +kernel) ⟨Nat.le_of_ble_eq_true rfl, Nat.le_of_ble_eq_true rfl⟩, hts _ (gw_t _ hw340), trivial⟩ ⟨fun a U g mk q => ⟨q.1, trivial⟩, fun U hU hW => ⟨rfl, trivial⟩⟩ rfl rfl hl.1 rfl (lv_room (Nat.le_of_ble_eq_true rfl)) dT_layStart_73 ⟨Nat.le_of_ble_eq_true rfl, Nat.le_of_ble_eq_true rfl⟩).run) (fun r73 hr73 => ?_)
        refine lv_if_eq (tgt := 83) hx hb dT_layStart_76 (by decide) (fun c76 => ?_) (fun c76 => ?_)
        · refine lv_lconst (v := 0) hx hb dT_layStart_83 (by decide) ?_
          refine wa_l (k := 0) hx hb hK hP hD hS (4 + k) 1 (gr_get (X := ([(h0, .inr (2, [.ref ta0, .long dn, .int (nI hh), .int (nI ww), .ref ta1, .ref ta2])), (ta0, .inl (kI, 63, .inl voc)), (ta1, .inl (kH, 8, .inr (.inr (.inr (.inr (fun i => some (tar i))))))), (ta2, .inl (kI, 8, .inl b9))] : va_W)) (by omega)) rfl (by omega) (by omega) dT_layStart_84 (fun H locs hP hD hS => ?_)
          have eg := gJ_set (X := ([(h0, .inr (2, [.ref ta0, .long dn, .int (nI hh), .int (nI ww), .ref ta1, .ref ta2])), (ta0, .inl (kI, 63, .inl voc)), (ta1, .inl (kH, 8, .inr (.inr (.inr (.inr (fun i => some (tar i))))))), (ta2, .inl (kI, 8, .inl b9))] : va_W)) (Y := ([] : va_W)) (k := kJ) (n := 8) (w := 65) (r := tar) (M := M9) (i := k) (by omega) (vp_updL (M9 k) 0 0)
          have hP := (congrArg (fun z => va_P D rcl z H) eg).mp hP
          have hD := (congrArg (fun z => va_D A z) eg).mp hD
          have hP : va_P D rcl (([(h0, .inr (2, [.ref ta0, .long dn, .int (nI hh), .int (nI ww), .ref ta1, .ref ta2])), (ta0, .inl (kI, 63, .inl voc)), (ta1, .inl (kH, 8, .inr (.inr (.inr (.inr (fun i => some (tar i))))))), (ta2, .inl (kI, 8, .inl b9))] : va_W) ++ (gJ kJ 8 65 tar (up2 M9 k (vp_updL (M9 k) 0 0)) ++ ([] : va_W))) H := hP
          have hD : va_D A (([(h0, .inr (2, [.ref ta0, .long dn, .int (nI hh), .int (nI ww), .ref ta1, .ref ta2])), (ta0, .inl (kI, 63, .inl voc)), (ta1, .inl (kH, 8, .inr (.inr (.inr (.inr (fun i => some (tar i))))))), (ta2, .inl (kI, 8, .inl b9))] : va_W) ++ (gJ kJ 8 65 tar (up2 M9 k (vp_updL (M9 k) 0 0)) ++ ([] : va_W))) := hD
          refine lv_aload_n hx hb dT_layStart_85 rfl (lv_at hl 0 rfl) ?_
          refine va_get (D := D) (cl := rcl) (ci := 2) (v := .ref ta1) (C := NT) (T := TT) (N := 6) hx hb hts (fun w h => gw_t w (uwT w h)) hown hK hP 0 rfl rfl 4 (by decide) (hts _ (gw_t _ hw119)) (fun _ h9 => h9) rfl dT_layStart_86 ?_
          refine lv_iload_n hx hb dT_layStart_89 rfl (lv_at hl 3 rfl) ?_
          refine ra_a (k := k) (q := tar k) hx hb hK hP 2 4 rfl rfl (by omega) (by omega) (rfl) dT_layStart_90 ?_
          refine lv_iconst (v := 1) hx hb dT_layStart_91 (by decide) ?_
          refine lv_lconst (v := 0) hx hb dT_layStart_92 (by decide) ?_
          refine wa_l (k := 1) hx hb hK hP hD hS (4 + k) 1 (gr_get (X := ([(h0, .inr (2, [.ref ta0, .long dn, .int (nI hh), .int (nI ww), .ref ta1, .ref ta2])), (ta0, .inl (kI, 63, .inl voc)), (ta1, .inl (kH, 8, .inr (.inr (.inr (.inr (fun i => some (tar i))))))), (ta2, .inl (kI, 8, .inl b9))] : va_W)) (by omega)) rfl (by omega) (by omega) dT_layStart_93 (fun H locs hP hD hS => ?_)
          have eg := gJ_set (X := ([(h0, .inr (2, [.ref ta0, .long dn, .int (nI hh), .int (nI ww), .ref ta1, .ref ta2])), (ta0, .inl (kI, 63, .inl voc)), (ta1, .inl (kH, 8, .inr (.inr (.inr (.inr (fun i => some (tar i))))))), (ta2, .inl (kI, 8, .inl b9))] : va_W)) (Y := ([] : va_W)) (k := kJ) (n := 8) (w := 65) (r := tar) (M := up2 M9 k (vp_updL (M9 k) 0 0)) (i := k) (by omega) (vp_updL ((up2 M9 k (vp_updL (M9 k) 0 0)) k) 1 0)
          have hP := (congrArg (fun z => va_P D rcl z H) eg).mp hP
          have hD := (congrArg (fun z => va_D A z) eg).mp hD
          have hP : va_P D rcl (([(h0, .inr (2, [.ref ta0, .long dn, .int (nI hh), .int (nI ww), .ref ta1, .ref ta2])), (ta0, .inl (kI, 63, .inl voc)), (ta1, .inl (kH, 8, .inr (.inr (.inr (.inr (fun i => some (tar i))))))), (ta2, .inl (kI, 8, .inl b9))] : va_W) ++ (gJ kJ 8 65 tar (up2 (up2 M9 k (vp_updL (M9 k) 0 0)) k (vp_updL ((up2 M9 k (vp_updL (M9 k) 0 0)) k) 1 0)) ++ ([] : va_W))) H := hP
          have hD : va_D A (([(h0, .inr (2, [.ref ta0, .long dn, .int (nI hh), .int (nI ww), .ref ta1, .ref ta2])), (ta0, .inl (kI, 63, .inl voc)), (ta1, .inl (kH, 8, .inr (.inr (.inr (.inr (fun i => some (tar i))))))), (ta2, .inl (kI, 8, .inl b9))] : va_W) ++ (gJ kJ 8 65 tar (up2 (up2 M9 k (vp_updL (M9 k) 0 0)) k (vp_updL ((up2 M9 k (vp_updL (M9 k) 0 0)) k) 1 0)) ++ ([] : va_W))) := hD
          refine lv_aload_n hx hb dT_layStart_94 rfl (lv_at hl 0 rfl) ?_
          refine va_get (D := D) (cl := rcl) (ci := 2) (v := .ref ta2) (C := NT) (T := TT) (N := 6) hx hb hts (fun w h => gw_t w (uwT w h)) hown hK hP 0 rfl rfl 5 (by decide) (hts _ (gw_t _ hw120)) (fun _ h9 => h9) rfl dT_layStart_95 ?_
          refine lv_iload_n hx hb dT_layStart_98 rfl (lv_at hl 3 rfl) ?_
          refine lv_iload_n hx hb dT_layStart_99 rfl (lv_at hl 3 rfl) ?_
          refine lv_ineg hx hb dT_layStart_100 ?_
          refine lv_topi (fun v1 ev1 => ?_)
          refine wa_i (k := k) hx hb hK hP hD hS 3 0 rfl rfl (by omega) (by omega) dT_layStart_101 (fun H locs hP hD hS => ?_)
          rw [setX (X := [(h0, .inr (2, [.ref ta0, .long dn, .int (nI hh), .int (nI ww), .ref ta1, .ref ta2])), (ta0, .inl (kI, 63, .inl voc)), (ta1, .inl (kH, 8, .inr (.inr (.inr (.inr (fun i => some (tar i))))))), (ta2, .inl (kI, 8, .inl b9))]) (k := 3) (Nat.le_of_ble_eq_true rfl)] at hP hD
          have hP : va_P D rcl (([(h0, .inr (2, [.ref ta0, .long dn, .int (nI hh), .int (nI ww), .ref ta1, .ref ta2])), (ta0, .inl (kI, 63, .inl voc)), (ta1, .inl (kH, 8, .inr (.inr (.inr (.inr (fun i => some (tar i))))))), (ta2, .inl (kI, 8, .inl (upd b9 k v1)))] : va_W) ++ (gJ kJ 8 65 tar (up2 (up2 M9 k (vp_updL (M9 k) 0 0)) k (vp_updL ((up2 M9 k (vp_updL (M9 k) 0 0)) k) 1 0)) ++ ([] : va_W))) H := hP
          have hD : va_D A (([(h0, .inr (2, [.ref ta0, .long dn, .int (nI hh), .int (nI ww), .ref ta1, .ref ta2])), (ta0, .inl (kI, 63, .inl voc)), (ta1, .inl (kH, 8, .inr (.inr (.inr (.inr (fun i => some (tar i))))))), (ta2, .inl (kI, 8, .inl (upd b9 k v1)))] : va_W) ++ (gJ kJ 8 65 tar (up2 (up2 M9 k (vp_updL (M9 k) 0 0)) k (vp_updL ((up2 M9 k (vp_updL (M9 k) 0 0)) k) 1 0)) ++ ([] : va_W))) := hD
          refine lv_iinc (v := nI (k + 1)) (lv' := [(3, .int (nI (k + 1))), (0, .ref h0), (1, .int (nI se)), (2, .int vn)]) hx hb dT_layStart_102 hl (k := 3) rfl (nI_add k 1) (by decide) rfl (fun ls hl => ?_)
          refine lv_goto (tgt := 54) hx hb dT_layStart_105 (by decide) ?_
          exact ihLP54 (k + 1) (up2 (up2 M9 k (vp_updL (M9 k) 0 0)) k (vp_updL ((up2 M9 k (vp_updL (M9 k) 0 0)) k) 1 0)) (upd b9 k v1) _ _ ls (by omega) (by omega) hP hD hS (lv_sub hl [1, 2, 3, 0] rfl)
        · refine lv_lconst (v := 1) hx hb dT_layStart_79 (by decide) ?_
          refine lv_goto (tgt := 84) hx hb dT_layStart_80 (by decide) ?_
          refine wa_l (k := 0) hx hb hK hP hD hS (4 + k) 1 (gr_get (X := ([(h0, .inr (2, [.ref ta0, .long dn, .int (nI hh), .int (nI ww), .ref ta1, .ref ta2])), (ta0, .inl (kI, 63, .inl voc)), (ta1, .inl (kH, 8, .inr (.inr (.inr (.inr (fun i => some (tar i))))))), (ta2, .inl (kI, 8, .inl b9))] : va_W)) (by omega)) rfl (by omega) (by omega) dT_layStart_84 (fun H locs hP hD hS => ?_)
          have eg := gJ_set (X := ([(h0, .inr (2, [.ref ta0, .long dn, .int (nI hh), .int (nI ww), .ref ta1, .ref ta2])), (ta0, .inl (kI, 63, .inl voc)), (ta1, .inl (kH, 8, .inr (.inr (.inr (.inr (fun i => some (tar i))))))), (ta2, .inl (kI, 8, .inl b9))] : va_W)) (Y := ([] : va_W)) (k := kJ) (n := 8) (w := 65) (r := tar) (M := M9) (i := k) (by omega) (vp_updL (M9 k) 0 1)
          have hP := (congrArg (fun z => va_P D rcl z H) eg).mp hP
          have hD := (congrArg (fun z => va_D A z) eg).mp hD
          have hP : va_P D rcl (([(h0, .inr (2, [.ref ta0, .long dn, .int (nI hh), .int (nI ww), .ref ta1, .ref ta2])), (ta0, .inl (kI, 63, .inl voc)), (ta1, .inl (kH, 8, .inr (.inr (.inr (.inr (fun i => some (tar i))))))), (ta2, .inl (kI, 8, .inl b9))] : va_W) ++ (gJ kJ 8 65 tar (up2 M9 k (vp_updL (M9 k) 0 1)) ++ ([] : va_W))) H := hP
          have hD : va_D A (([(h0, .inr (2, [.ref ta0, .long dn, .int (nI hh), .int (nI ww), .ref ta1, .ref ta2])), (ta0, .inl (kI, 63, .inl voc)), (ta1, .inl (kH, 8, .inr (.inr (.inr (.inr (fun i => some (tar i))))))), (ta2, .inl (kI, 8, .inl b9))] : va_W) ++ (gJ kJ 8 65 tar (up2 M9 k (vp_updL (M9 k) 0 1)) ++ ([] : va_W))) := hD
          refine lv_aload_n hx hb dT_layStart_85 rfl (lv_at hl 0 rfl) ?_
          refine va_get (D := D) (cl := rcl) (ci := 2) (v := .ref ta1) (C := NT) (T := TT) (N := 6) hx hb hts (fun w h => gw_t w (uwT w h)) hown hK hP 0 rfl rfl 4 (by decide) (hts _ (gw_t _ hw119)) (fun _ h9 => h9) rfl dT_layStart_86 ?_
          refine lv_iload_n hx hb dT_layStart_89 rfl (lv_at hl 3 rfl) ?_
          refine ra_a (k := k) (q := tar k) hx hb hK hP 2 4 rfl rfl (by omega) (by omega) (rfl) dT_layStart_90 ?_
          refine lv_iconst (v := 1) hx hb dT_layStart_91 (by decide) ?_
          refine lv_lconst (v := 0) hx hb dT_layStart_92 (by decide) ?_
          refine wa_l (k := 1) hx hb hK hP hD hS (4 + k) 1 (gr_get (X := ([(h0, .inr (2, [.ref ta0, .long dn, .int (nI hh), .int (nI ww), .ref ta1, .ref ta2])), (ta0, .inl (kI, 63, .inl voc)), (ta1, .inl (kH, 8, .inr (.inr (.inr (.inr (fun i => some (tar i))))))), (ta2, .inl (kI, 8, .inl b9))] : va_W)) (by omega)) rfl (by omega) (by omega) dT_layStart_93 (fun H locs hP hD hS => ?_)
          have eg := gJ_set (X := ([(h0, .inr (2, [.ref ta0, .long dn, .int (nI hh), .int (nI ww), .ref ta1, .ref ta2])), (ta0, .inl (kI, 63, .inl voc)), (ta1, .inl (kH, 8, .inr (.inr (.inr (.inr (fun i => some (tar i))))))), (ta2, .inl (kI, 8, .inl b9))] : va_W)) (Y := ([] : va_W)) (k := kJ) (n := 8) (w := 65) (r := tar) (M := up2 M9 k (vp_updL (M9 k) 0 1)) (i := k) (by omega) (vp_updL ((up2 M9 k (vp_updL (M9 k) 0 1)) k) 1 0)
          have hP := (congrArg (fun z => va_P D rcl z H) eg).mp hP
          have hD := (congrArg (fun z => va_D A z) eg).mp hD
          have hP : va_P D rcl (([(h0, .inr (2, [.ref ta0, .long dn, .int (nI hh), .int (nI ww), .ref ta1, .ref ta2])), (ta0, .inl (kI, 63, .inl voc)), (ta1, .inl (kH, 8, .inr (.inr (.inr (.inr (fun i => some (tar i))))))), (ta2, .inl (kI, 8, .inl b9))] : va_W) ++ (gJ kJ 8 65 tar (up2 (up2 M9 k (vp_updL (M9 k) 0 1)) k (vp_updL ((up2 M9 k (vp_updL (M9 k) 0 1)) k) 1 0)) ++ ([] : va_W))) H := hP
          have hD : va_D A (([(h0, .inr (2, [.ref ta0, .long dn, .int (nI hh), .int (nI ww), .ref ta1, .ref ta2])), (ta0, .inl (kI, 63, .inl voc)), (ta1, .inl (kH, 8, .inr (.inr (.inr (.inr (fun i => some (tar i))))))), (ta2, .inl (kI, 8, .inl b9))] : va_W) ++ (gJ kJ 8 65 tar (up2 (up2 M9 k (vp_updL (M9 k) 0 1)) k (vp_updL ((up2 M9 k (vp_updL (M9 k) 0 1)) k) 1 0)) ++ ([] : va_W))) := hD
          refine lv_aload_n hx hb dT_layStart_94 rfl (lv_at hl 0 rfl) ?_
          refine va_get (D := D) (cl := rcl) (ci := 2) (v := .ref ta2) (C := NT) (T := TT) (N := 6) hx hb hts (fun w h => gw_t w (uwT w h)) hown hK hP 0 rfl rfl 5 (by decide) (hts _ (gw_t _ hw120)) (fun _ h9 => h9) rfl dT_layStart_95 ?_
          refine lv_iload_n hx hb dT_layStart_98 rfl (lv_at hl 3 rfl) ?_
          refine lv_iload_n hx hb dT_layStart_99 rfl (lv_at hl 3 rfl) ?_
          refine lv_ineg hx hb dT_layStart_100 ?_
          refine lv_topi (fun v2 ev2 => ?_)
          refine wa_i (k := k) hx hb hK hP hD hS 3 0 rfl rfl (by omega) (by omega) dT_layStart_101 (fun H locs hP hD hS => ?_)
          rw [setX (X := [(h0, .inr (2, [.ref ta0, .long dn, .int (nI hh), .int (nI ww), .ref ta1, .ref ta2])), (ta0, .inl (kI, 63, .inl voc)), (ta1, .inl (kH, 8, .inr (.inr (.inr (.inr (fun i => some (tar i))))))), (ta2, .inl (kI, 8, .inl b9))]) (k := 3) (Nat.le_of_ble_eq_true rfl)] at hP hD
          have hP : va_P D rcl (([(h0, .inr (2, [.ref ta0, .long dn, .int (nI hh), .int (nI ww), .ref ta1, .ref ta2])), (ta0, .inl (kI, 63, .inl voc)), (ta1, .inl (kH, 8, .inr (.inr (.inr (.inr (fun i => some (tar i))))))), (ta2, .inl (kI, 8, .inl (upd b9 k v2)))] : va_W) ++ (gJ kJ 8 65 tar (up2 (up2 M9 k (vp_updL (M9 k) 0 1)) k (vp_updL ((up2 M9 k (vp_updL (M9 k) 0 1)) k) 1 0)) ++ ([] : va_W))) H := hP
          have hD : va_D A (([(h0, .inr (2, [.ref ta0, .long dn, .int (nI hh), .int (nI ww), .ref ta1, .ref ta2])), (ta0, .inl (kI, 63, .inl voc)), (ta1, .inl (kH, 8, .inr (.inr (.inr (.inr (fun i => some (tar i))))))), (ta2, .inl (kI, 8, .inl (upd b9 k v2)))] : va_W) ++ (gJ kJ 8 65 tar (up2 (up2 M9 k (vp_updL (M9 k) 0 1)) k (vp_updL ((up2 M9 k (vp_updL (M9 k) 0 1)) k) 1 0)) ++ ([] : va_W))) := hD
          refine lv_iinc (v := nI (k + 1)) (lv' := [(3, .int (nI (k + 1))), (0, .ref h0), (1, .int (nI se)), (2, .int vn)]) hx hb dT_layStart_102 hl (k := 3) rfl (nI_add k 1) (by decide) rfl (fun ls hl => ?_)
          refine lv_goto (tgt := 54) hx hb dT_layStart_105 (by decide) ?_
          exact ihLP54 (k + 1) (up2 (up2 M9 k (vp_updL (M9 k) 0 1)) k (vp_updL ((up2 M9 k (vp_updL (M9 k) 0 1)) k) 1 0)) (upd b9 k v2) _ _ ls (by omega) (by omega) hP hD hS (lv_sub hl [1, 2, 3, 0] rfl)
  refine lv_aload_n hx hb dT_layStart_0 rfl (lv_at hl 0 rfl) ?_
  refine va_get (D := D) (cl := rcl) (ci := 2) (v := .ref ta1) (C := NT) (T := TT) (N := 6) hx hb hts (fun w h => gw_t w (uwT w h)) hown hK hP 0 rfl rfl 4 (by decide) (hts _ (gw_t _ hw119)) (fun _ h9 => h9) rfl dT_layStart_1 ?_
  refine lv_iconst (v := 0) hx hb dT_layStart_4 (by decide) ?_
  refine ra_a (k := 0) (q := tar 0) hx hb hK hP 2 4 rfl rfl (by omega) (by omega) (rfl) dT_layStart_5 ?_
  refine lv_iconst (v := 0) hx hb dT_layStart_6 (by decide) ?_
  refine lv_ldc2 (v := -10000000000) (own := NT) hx hb hown (hts _ (gw_t _ hw337)) dT_layStart_7 ?_
  refine lv_iload_n hx hb dT_layStart_10 rfl (lv_at hl 1 rfl) ?_
  refine vp_callSi (W.runS (As := [.int (nI se)]) (rest := [.long (-10000000000), .int 0, .ref (tar 0)]) ⟨hx, hb, hml, hown, hts⟩ (cJI_bitCount l se hse) ⟨cB 1 hts hw300 hw9 hw338 (by decide +kernel) ⟨Nat.le_of_ble_eq_true rfl, Nat.le_of_ble_eq_true rfl⟩ rfl rfl, hts _ (gw_t _ hw299)⟩ ⟨fun a U g mk q => ⟨q.1, trivial⟩, fun U hU hW => ⟨rfl, trivial⟩⟩ rfl rfl hl.1 rfl (lv_room (Nat.le_of_ble_eq_true rfl)) dT_layStart_11 ⟨Nat.le_of_ble_eq_true rfl, Nat.le_of_ble_eq_true rfl⟩) (fun r11 hr11 => ?_)
  refine lv_i2l (v := r11.toInt64) hx hb dT_layStart_14 rfl ?_
  refine lv_lmul hx hb dT_layStart_15 ?_
  refine lv_topl (fun v3 ev3 => ?_)
  refine wa_l (k := 0) hx hb hK hP hD hS (4 + 0) 1 (gr_get (X := ([(h0, .inr (2, [.ref ta0, .long dn, .int (nI hh), .int (nI ww), .ref ta1, .ref ta2])), (ta0, .inl (kI, 63, .inl voc)), (ta1, .inl (kH, 8, .inr (.inr (.inr (.inr (fun i => some (tar i))))))), (ta2, .inl (kI, 8, .inl bz))] : va_W)) (by omega)) rfl (by omega) (by omega) dT_layStart_16 (fun H locs hP hD hS => ?_)
  have eg := gJ_set (X := ([(h0, .inr (2, [.ref ta0, .long dn, .int (nI hh), .int (nI ww), .ref ta1, .ref ta2])), (ta0, .inl (kI, 63, .inl voc)), (ta1, .inl (kH, 8, .inr (.inr (.inr (.inr (fun i => some (tar i))))))), (ta2, .inl (kI, 8, .inl bz))] : va_W)) (Y := ([] : va_W)) (k := kJ) (n := 8) (w := 65) (r := tar) (M := M) (i := 0) (by omega) (vp_updL (M 0) 0 v3)
  have hP := (congrArg (fun z => va_P D rcl z H) eg).mp hP
  have hD := (congrArg (fun z => va_D A z) eg).mp hD
  have hP : va_P D rcl (([(h0, .inr (2, [.ref ta0, .long dn, .int (nI hh), .int (nI ww), .ref ta1, .ref ta2])), (ta0, .inl (kI, 63, .inl voc)), (ta1, .inl (kH, 8, .inr (.inr (.inr (.inr (fun i => some (tar i))))))), (ta2, .inl (kI, 8, .inl bz))] : va_W) ++ (gJ kJ 8 65 tar (up2 M 0 (vp_updL (M 0) 0 v3)) ++ ([] : va_W))) H := hP
  have hD : va_D A (([(h0, .inr (2, [.ref ta0, .long dn, .int (nI hh), .int (nI ww), .ref ta1, .ref ta2])), (ta0, .inl (kI, 63, .inl voc)), (ta1, .inl (kH, 8, .inr (.inr (.inr (.inr (fun i => some (tar i))))))), (ta2, .inl (kI, 8, .inl bz))] : va_W) ++ (gJ kJ 8 65 tar (up2 M 0 (vp_updL (M 0) 0 v3)) ++ ([] : va_W))) := hD
  refine lv_aload_n hx hb dT_layStart_17 rfl (lv_at hl 0 rfl) ?_
  refine va_get (D := D) (cl := rcl) (ci := 2) (v := .ref ta1) (C := NT) (T := TT) (N := 6) hx hb hts (fun w h => gw_t w (uwT w h)) hown hK hP 0 rfl rfl 4 (by decide) (hts _ (gw_t _ hw119)) (fun _ h9 => h9) rfl dT_layStart_18 ?_
  refine lv_iconst (v := 0) hx hb dT_layStart_21 (by decide) ?_
  refine ra_a (k := 0) (q := tar 0) hx hb hK hP 2 4 rfl rfl (by omega) (by omega) (rfl) dT_layStart_22 ?_
  refine lv_iconst (v := 1) hx hb dT_layStart_23 (by decide) ?_
  refine lv_lconst (v := 0) hx hb dT_layStart_24 (by decide) ?_
  refine wa_l (k := 1) hx hb hK hP hD hS (4 + 0) 1 (gr_get (X := ([(h0, .inr (2, [.ref ta0, .long dn, .int (nI hh), .int (nI ww), .ref ta1, .ref ta2])), (ta0, .inl (kI, 63, .inl voc)), (ta1, .inl (kH, 8, .inr (.inr (.inr (.inr (fun i => some (tar i))))))), (ta2, .inl (kI, 8, .inl bz))] : va_W)) (by omega)) rfl (by omega) (by omega) dT_layStart_25 (fun H locs hP hD hS => ?_)
  have eg := gJ_set (X := ([(h0, .inr (2, [.ref ta0, .long dn, .int (nI hh), .int (nI ww), .ref ta1, .ref ta2])), (ta0, .inl (kI, 63, .inl voc)), (ta1, .inl (kH, 8, .inr (.inr (.inr (.inr (fun i => some (tar i))))))), (ta2, .inl (kI, 8, .inl bz))] : va_W)) (Y := ([] : va_W)) (k := kJ) (n := 8) (w := 65) (r := tar) (M := up2 M 0 (vp_updL (M 0) 0 v3)) (i := 0) (by omega) (vp_updL ((up2 M 0 (vp_updL (M 0) 0 v3)) 0) 1 0)
  have hP := (congrArg (fun z => va_P D rcl z H) eg).mp hP
  have hD := (congrArg (fun z => va_D A z) eg).mp hD
  have hP : va_P D rcl (([(h0, .inr (2, [.ref ta0, .long dn, .int (nI hh), .int (nI ww), .ref ta1, .ref ta2])), (ta0, .inl (kI, 63, .inl voc)), (ta1, .inl (kH, 8, .inr (.inr (.inr (.inr (fun i => some (tar i))))))), (ta2, .inl (kI, 8, .inl bz))] : va_W) ++ (gJ kJ 8 65 tar (up2 (up2 M 0 (vp_updL (M 0) 0 v3)) 0 (vp_updL ((up2 M 0 (vp_updL (M 0) 0 v3)) 0) 1 0)) ++ ([] : va_W))) H := hP
  have hD : va_D A (([(h0, .inr (2, [.ref ta0, .long dn, .int (nI hh), .int (nI ww), .ref ta1, .ref ta2])), (ta0, .inl (kI, 63, .inl voc)), (ta1, .inl (kH, 8, .inr (.inr (.inr (.inr (fun i => some (tar i))))))), (ta2, .inl (kI, 8, .inl bz))] : va_W) ++ (gJ kJ 8 65 tar (up2 (up2 M 0 (vp_updL (M 0) 0 v3)) 0 (vp_updL ((up2 M 0 (vp_updL (M 0) 0 v3)) 0) 1 0)) ++ ([] : va_W))) := hD
  refine lv_aload_n hx hb dT_layStart_26 rfl (lv_at hl 0 rfl) ?_
  refine va_get (D := D) (cl := rcl) (ci := 2) (v := .ref ta1) (C := NT) (T := TT) (N := 6) hx hb hts (fun w h => gw_t w (uwT w h)) hown hK hP 0 rfl rfl 4 (by decide) (hts _ (gw_t _ hw119)) (fun _ h9 => h9) rfl dT_layStart_27 ?_
  refine lv_iconst (v := 1) hx hb dT_layStart_30 (by decide) ?_
  refine ra_a (k := 1) (q := tar 1) hx hb hK hP 2 4 rfl rfl (by omega) (by omega) (rfl) dT_layStart_31 ?_
  refine lv_iconst (v := 0) hx hb dT_layStart_32 (by decide) ?_
  refine lv_iload_n hx hb dT_layStart_33 rfl (lv_at hl 2 rfl) ?_
  refine lv_i2l (v := vn.toInt64) hx hb dT_layStart_34 rfl ?_
  refine wa_l (k := 0) hx hb hK hP hD hS (4 + 1) 1 (gr_get (X := ([(h0, .inr (2, [.ref ta0, .long dn, .int (nI hh), .int (nI ww), .ref ta1, .ref ta2])), (ta0, .inl (kI, 63, .inl voc)), (ta1, .inl (kH, 8, .inr (.inr (.inr (.inr (fun i => some (tar i))))))), (ta2, .inl (kI, 8, .inl bz))] : va_W)) (by omega)) rfl (by omega) (by omega) dT_layStart_35 (fun H locs hP hD hS => ?_)
  have eg := gJ_set (X := ([(h0, .inr (2, [.ref ta0, .long dn, .int (nI hh), .int (nI ww), .ref ta1, .ref ta2])), (ta0, .inl (kI, 63, .inl voc)), (ta1, .inl (kH, 8, .inr (.inr (.inr (.inr (fun i => some (tar i))))))), (ta2, .inl (kI, 8, .inl bz))] : va_W)) (Y := ([] : va_W)) (k := kJ) (n := 8) (w := 65) (r := tar) (M := up2 (up2 M 0 (vp_updL (M 0) 0 v3)) 0 (vp_updL ((up2 M 0 (vp_updL (M 0) 0 v3)) 0) 1 0)) (i := 1) (by omega) (vp_updL ((up2 (up2 M 0 (vp_updL (M 0) 0 v3)) 0 (vp_updL ((up2 M 0 (vp_updL (M 0) 0 v3)) 0) 1 0)) 1) 0 vn.toInt64)
  have hP := (congrArg (fun z => va_P D rcl z H) eg).mp hP
  have hD := (congrArg (fun z => va_D A z) eg).mp hD
  have hP : va_P D rcl (([(h0, .inr (2, [.ref ta0, .long dn, .int (nI hh), .int (nI ww), .ref ta1, .ref ta2])), (ta0, .inl (kI, 63, .inl voc)), (ta1, .inl (kH, 8, .inr (.inr (.inr (.inr (fun i => some (tar i))))))), (ta2, .inl (kI, 8, .inl bz))] : va_W) ++ (gJ kJ 8 65 tar (up2 (up2 (up2 M 0 (vp_updL (M 0) 0 v3)) 0 (vp_updL ((up2 M 0 (vp_updL (M 0) 0 v3)) 0) 1 0)) 1 (vp_updL ((up2 (up2 M 0 (vp_updL (M 0) 0 v3)) 0 (vp_updL ((up2 M 0 (vp_updL (M 0) 0 v3)) 0) 1 0)) 1) 0 vn.toInt64)) ++ ([] : va_W))) H := hP
  have hD : va_D A (([(h0, .inr (2, [.ref ta0, .long dn, .int (nI hh), .int (nI ww), .ref ta1, .ref ta2])), (ta0, .inl (kI, 63, .inl voc)), (ta1, .inl (kH, 8, .inr (.inr (.inr (.inr (fun i => some (tar i))))))), (ta2, .inl (kI, 8, .inl bz))] : va_W) ++ (gJ kJ 8 65 tar (up2 (up2 (up2 M 0 (vp_updL (M 0) 0 v3)) 0 (vp_updL ((up2 M 0 (vp_updL (M 0) 0 v3)) 0) 1 0)) 1 (vp_updL ((up2 (up2 M 0 (vp_updL (M 0) 0 v3)) 0 (vp_updL ((up2 M 0 (vp_updL (M 0) 0 v3)) 0) 1 0)) 1) 0 vn.toInt64)) ++ ([] : va_W))) := hD
  refine lv_aload_n hx hb dT_layStart_36 rfl (lv_at hl 0 rfl) ?_
  refine va_get (D := D) (cl := rcl) (ci := 2) (v := .ref ta1) (C := NT) (T := TT) (N := 6) hx hb hts (fun w h => gw_t w (uwT w h)) hown hK hP 0 rfl rfl 4 (by decide) (hts _ (gw_t _ hw119)) (fun _ h9 => h9) rfl dT_layStart_37 ?_
  refine lv_iconst (v := 1) hx hb dT_layStart_40 (by decide) ?_
  refine ra_a (k := 1) (q := tar 1) hx hb hK hP 2 4 rfl rfl (by omega) (by omega) (rfl) dT_layStart_41 ?_
  refine lv_iconst (v := 1) hx hb dT_layStart_42 (by decide) ?_
  refine lv_lconst (v := 1) hx hb dT_layStart_43 (by decide) ?_
  refine wa_l (k := 1) hx hb hK hP hD hS (4 + 1) 1 (gr_get (X := ([(h0, .inr (2, [.ref ta0, .long dn, .int (nI hh), .int (nI ww), .ref ta1, .ref ta2])), (ta0, .inl (kI, 63, .inl voc)), (ta1, .inl (kH, 8, .inr (.inr (.inr (.inr (fun i => some (tar i))))))), (ta2, .inl (kI, 8, .inl bz))] : va_W)) (by omega)) rfl (by omega) (by omega) dT_layStart_44 (fun H locs hP hD hS => ?_)
  have eg := gJ_set (X := ([(h0, .inr (2, [.ref ta0, .long dn, .int (nI hh), .int (nI ww), .ref ta1, .ref ta2])), (ta0, .inl (kI, 63, .inl voc)), (ta1, .inl (kH, 8, .inr (.inr (.inr (.inr (fun i => some (tar i))))))), (ta2, .inl (kI, 8, .inl bz))] : va_W)) (Y := ([] : va_W)) (k := kJ) (n := 8) (w := 65) (r := tar) (M := up2 (up2 (up2 M 0 (vp_updL (M 0) 0 v3)) 0 (vp_updL ((up2 M 0 (vp_updL (M 0) 0 v3)) 0) 1 0)) 1 (vp_updL ((up2 (up2 M 0 (vp_updL (M 0) 0 v3)) 0 (vp_updL ((up2 M 0 (vp_updL (M 0) 0 v3)) 0) 1 0)) 1) 0 vn.toInt64)) (i := 1) (by omega) (vp_updL ((up2 (up2 (up2 M 0 (vp_updL (M 0) 0 v3)) 0 (vp_updL ((up2 M 0 (vp_updL (M 0) 0 v3)) 0) 1 0)) 1 (vp_updL ((up2 (up2 M 0 (vp_updL (M 0) 0 v3)) 0 (vp_updL ((up2 M 0 (vp_updL (M 0) 0 v3)) 0) 1 0)) 1) 0 vn.toInt64)) 1) 1 1)
  have hP := (congrArg (fun z => va_P D rcl z H) eg).mp hP
  have hD := (congrArg (fun z => va_D A z) eg).mp hD
  have hP : va_P D rcl (([(h0, .inr (2, [.ref ta0, .long dn, .int (nI hh), .int (nI ww), .ref ta1, .ref ta2])), (ta0, .inl (kI, 63, .inl voc)), (ta1, .inl (kH, 8, .inr (.inr (.inr (.inr (fun i => some (tar i))))))), (ta2, .inl (kI, 8, .inl bz))] : va_W) ++ (gJ kJ 8 65 tar (up2 (up2 (up2 (up2 M 0 (vp_updL (M 0) 0 v3)) 0 (vp_updL ((up2 M 0 (vp_updL (M 0) 0 v3)) 0) 1 0)) 1 (vp_updL ((up2 (up2 M 0 (vp_updL (M 0) 0 v3)) 0 (vp_updL ((up2 M 0 (vp_updL (M 0) 0 v3)) 0) 1 0)) 1) 0 vn.toInt64)) 1 (vp_updL ((up2 (up2 (up2 M 0 (vp_updL (M 0) 0 v3)) 0 (vp_updL ((up2 M 0 (vp_updL (M 0) 0 v3)) 0) 1 0)) 1 (vp_updL ((up2 (up2 M 0 (vp_updL (M 0) 0 v3)) 0 (vp_updL ((up2 M 0 (vp_updL (M 0) 0 v3)) 0) 1 0)) 1) 0 vn.toInt64)) 1) 1 1)) ++ ([] : va_W))) H := hP
  have hD : va_D A (([(h0, .inr (2, [.ref ta0, .long dn, .int (nI hh), .int (nI ww), .ref ta1, .ref ta2])), (ta0, .inl (kI, 63, .inl voc)), (ta1, .inl (kH, 8, .inr (.inr (.inr (.inr (fun i => some (tar i))))))), (ta2, .inl (kI, 8, .inl bz))] : va_W) ++ (gJ kJ 8 65 tar (up2 (up2 (up2 (up2 M 0 (vp_updL (M 0) 0 v3)) 0 (vp_updL ((up2 M 0 (vp_updL (M 0) 0 v3)) 0) 1 0)) 1 (vp_updL ((up2 (up2 M 0 (vp_updL (M 0) 0 v3)) 0 (vp_updL ((up2 M 0 (vp_updL (M 0) 0 v3)) 0) 1 0)) 1) 0 vn.toInt64)) 1 (vp_updL ((up2 (up2 (up2 M 0 (vp_updL (M 0) 0 v3)) 0 (vp_updL ((up2 M 0 (vp_updL (M 0) 0 v3)) 0) 1 0)) 1 (vp_updL ((up2 (up2 M 0 (vp_updL (M 0) 0 v3)) 0 (vp_updL ((up2 M 0 (vp_updL (M 0) 0 v3)) 0) 1 0)) 1) 0 vn.toInt64)) 1) 1 1)) ++ ([] : va_W))) := hD
  refine lv_aload_n hx hb dT_layStart_45 rfl (lv_at hl 0 rfl) ?_
  refine va_get (D := D) (cl := rcl) (ci := 2) (v := .ref ta2) (C := NT) (T := TT) (N := 6) hx hb hts (fun w h => gw_t w (uwT w h)) hown hK hP 0 rfl rfl 5 (by decide) (hts _ (gw_t _ hw120)) (fun _ h9 => h9) rfl dT_layStart_46 ?_
  refine lv_iconst (v := 1) hx hb dT_layStart_49 (by decide) ?_
  refine lv_iconst (v := 1) hx hb dT_layStart_50 (by decide) ?_
  refine wa_i (k := 1) hx hb hK hP hD hS 3 0 rfl rfl (by omega) (by omega) dT_layStart_51 (fun H locs hP hD hS => ?_)
  rw [setX (X := [(h0, .inr (2, [.ref ta0, .long dn, .int (nI hh), .int (nI ww), .ref ta1, .ref ta2])), (ta0, .inl (kI, 63, .inl voc)), (ta1, .inl (kH, 8, .inr (.inr (.inr (.inr (fun i => some (tar i))))))), (ta2, .inl (kI, 8, .inl bz))]) (k := 3) (Nat.le_of_ble_eq_true rfl)] at hP hD
  have hP : va_P D rcl (([(h0, .inr (2, [.ref ta0, .long dn, .int (nI hh), .int (nI ww), .ref ta1, .ref ta2])), (ta0, .inl (kI, 63, .inl voc)), (ta1, .inl (kH, 8, .inr (.inr (.inr (.inr (fun i => some (tar i))))))), (ta2, .inl (kI, 8, .inl (upd bz 1 1)))] : va_W) ++ (gJ kJ 8 65 tar (up2 (up2 (up2 (up2 M 0 (vp_updL (M 0) 0 v3)) 0 (vp_updL ((up2 M 0 (vp_updL (M 0) 0 v3)) 0) 1 0)) 1 (vp_updL ((up2 (up2 M 0 (vp_updL (M 0) 0 v3)) 0 (vp_updL ((up2 M 0 (vp_updL (M 0) 0 v3)) 0) 1 0)) 1) 0 vn.toInt64)) 1 (vp_updL ((up2 (up2 (up2 M 0 (vp_updL (M 0) 0 v3)) 0 (vp_updL ((up2 M 0 (vp_updL (M 0) 0 v3)) 0) 1 0)) 1 (vp_updL ((up2 (up2 M 0 (vp_updL (M 0) 0 v3)) 0 (vp_updL ((up2 M 0 (vp_updL (M 0) 0 v3)) 0) 1 0)) 1) 0 vn.toInt64)) 1) 1 1)) ++ ([] : va_W))) H := hP
  have hD : va_D A (([(h0, .inr (2, [.ref ta0, .long dn, .int (nI hh), .int (nI ww), .ref ta1, .ref ta2])), (ta0, .inl (kI, 63, .inl voc)), (ta1, .inl (kH, 8, .inr (.inr (.inr (.inr (fun i => some (tar i))))))), (ta2, .inl (kI, 8, .inl (upd bz 1 1)))] : va_W) ++ (gJ kJ 8 65 tar (up2 (up2 (up2 (up2 M 0 (vp_updL (M 0) 0 v3)) 0 (vp_updL ((up2 M 0 (vp_updL (M 0) 0 v3)) 0) 1 0)) 1 (vp_updL ((up2 (up2 M 0 (vp_updL (M 0) 0 v3)) 0 (vp_updL ((up2 M 0 (vp_updL (M 0) 0 v3)) 0) 1 0)) 1) 0 vn.toInt64)) 1 (vp_updL ((up2 (up2 (up2 M 0 (vp_updL (M 0) 0 v3)) 0 (vp_updL ((up2 M 0 (vp_updL (M 0) 0 v3)) 0) 1 0)) 1 (vp_updL ((up2 (up2 M 0 (vp_updL (M 0) 0 v3)) 0 (vp_updL ((up2 M 0 (vp_updL (M 0) 0 v3)) 0) 1 0)) 1) 0 vn.toInt64)) 1) 1 1)) ++ ([] : va_W))) := hD
  refine lv_iconst (v := 2) hx hb dT_layStart_52 (by decide) ?_
  refine lv_istore_n (lv' := [(3, .int 2), (0, .ref h0), (1, .int (nI se)), (2, .int vn)]) hx hb dT_layStart_53 rfl hl (by decide) rfl (fun ls hl => ?_)
  exact LP54 _ 2 (up2 (up2 (up2 (up2 M 0 (vp_updL (M 0) 0 v3)) 0 (vp_updL ((up2 M 0 (vp_updL (M 0) 0 v3)) 0) 1 0)) 1 (vp_updL ((up2 (up2 M 0 (vp_updL (M 0) 0 v3)) 0 (vp_updL ((up2 M 0 (vp_updL (M 0) 0 v3)) 0) 1 0)) 1) 0 vn.toInt64)) 1 (vp_updL ((up2 (up2 (up2 M 0 (vp_updL (M 0) 0 v3)) 0 (vp_updL ((up2 M 0 (vp_updL (M 0) 0 v3)) 0) 1 0)) 1 (vp_updL ((up2 (up2 M 0 (vp_updL (M 0) 0 v3)) 0 (vp_updL ((up2 M 0 (vp_updL (M 0) 0 v3)) 0) 1 0)) 1) 0 vn.toInt64)) 1) 1 1)) (upd bz 1 1) _ _ ls (Nat.lt_succ_self _) (by omega) hP hD hS (lv_sub hl [1, 2, 3, 0] rfl)

set_option maxHeartbeats 4000000 in
set_option maxRecDepth 100000 in
theorem cT_addRound (l : Launch) (D : va_G) (kI kJ kZ kG kH : ClassId) (h0 : Nat) (ta0 : Nat) (ta1 : Nat) (ta2 : Nat) (tar : Nat → Nat) (dn : Int64) (hh : Nat) (ww : Nat) (voc : Nat → Int32) (M : Nat → Nat → Int64) (bz : Nat → Int32) (st : Nat) (cst : Int64) (hh8 : hh ≤ 8) (hw65 : ww < 65) (hst : st < 64) (sz : Nat) : Met l yT_addRound wT_addRound (rmL 1 0 0) (va_Pc [.ref h0, .int (nI st), .long cst] (fun U => U.heap.size = sz ∧ wd D kI kJ kZ kG kH (([(h0, .inr (2, [.ref ta0, .long dn, .int (nI hh), .int (nI ww), .ref ta1, .ref ta2])), (ta0, .inl (kI, 63, .inl voc)), (ta1, .inl (kH, 8, .inr (.inr (.inr (.inr (fun i => some (tar i))))))), (ta2, .inl (kI, 8, .inl bz))] : va_W) ++ (gJ kJ 8 65 tar M ++ ([] : va_W))) U ∧ va_D (fun _ => True) (([(h0, .inr (2, [.ref ta0, .long dn, .int (nI hh), .int (nI ww), .ref ta1, .ref ta2])), (ta0, .inl (kI, 63, .inl voc)), (ta1, .inl (kH, 8, .inr (.inr (.inr (.inr (fun i => some (tar i))))))), (ta2, .inl (kI, 8, .inl bz))] : va_W) ++ (gJ kJ 8 65 tar M ++ ([] : va_W))))) (va_Qi (fun (r : Int32) (v9 : Nat → Nat → Int64) => r = nI ww) (fun v9 t => va_P D rcl (([(h0, .inr (2, [.ref ta0, .long dn, .int (nI hh), .int (nI (ww + 1)), .ref ta1, .ref ta2])), (ta0, .inl (kI, 63, .inl voc)), (ta1, .inl (kH, 8, .inr (.inr (.inr (.inr (fun i => some (tar i))))))), (ta2, .inl (kI, 8, .inl bz))] : va_W) ++ (gJ kJ 8 65 tar v9 ++ ([] : va_W))) t.heap ∧ va_K D rcl (TY kI kJ kZ kG kH) t ∧ va_D (va_A (([(h0, .inr (2, [.ref ta0, .long dn, .int (nI hh), .int (nI ww), .ref ta1, .ref ta2])), (ta0, .inl (kI, 63, .inl voc)), (ta1, .inl (kH, 8, .inr (.inr (.inr (.inr (fun i => some (tar i))))))), (ta2, .inl (kI, 8, .inl bz))] : va_W) ++ (gJ kJ 8 65 tar M ++ ([] : va_W))) sz) (([(h0, .inr (2, [.ref ta0, .long dn, .int (nI hh), .int (nI (ww + 1)), .ref ta1, .ref ta2])), (ta0, .inl (kI, 63, .inl voc)), (ta1, .inl (kH, 8, .inr (.inr (.inr (.inr (fun i => some (tar i))))))), (ta2, .inl (kI, 8, .inl bz))] : va_W) ++ (gJ kJ 8 65 tar v9 ++ ([] : va_W)))) (va_A (([(h0, .inr (2, [.ref ta0, .long dn, .int (nI hh), .int (nI ww), .ref ta1, .ref ta2])), (ta0, .inl (kI, 63, .inl voc)), (ta1, .inl (kH, 8, .inr (.inr (.inr (.inr (fun i => some (tar i))))))), (ta2, .inl (kI, 8, .inl bz))] : va_W) ++ (gJ kJ 8 65 tar M ++ ([] : va_W))) sz)) 0 0 (va_A (([(h0, .inr (2, [.ref ta0, .long dn, .int (nI hh), .int (nI ww), .ref ta1, .ref ta2])), (ta0, .inl (kI, 63, .inl voc)), (ta1, .inl (kH, 8, .inr (.inr (.inr (.inr (fun i => some (tar i))))))), (ta2, .inl (kI, 8, .inl bz))] : va_W) ++ (gJ kJ 8 65 tar M ++ ([] : va_W))) sz) := by
  refine Met.ofW (cc := bT_addRound) (maxL := 6) (ret := (some .int)) (by decide) rfl ?_
  intro p e s m args below meth c s₁ B hml hv
  obtain ⟨rfl, hsz, ⟨hP, hK, hN⟩, hD0⟩ := hv
  have hx := B.exec
  have hb := B.bytes
  have hr := B.returns
  have hts := atoms_spec (ws := wT_addRound) B.pre
  have hown : s.vm.findClass NT = some m.cls := findClass_of_methodNamed B.named
  have hlocks := B.notSynchronized
  subst hsz
  have hD := hD0.self (sz := s.heap.size)
  generalize hAe : va_A (([(h0, .inr (2, [.ref ta0, .long dn, .int (nI hh), .int (nI ww), .ref ta1, .ref ta2])), (ta0, .inl (kI, 63, .inl voc)), (ta1, .inl (kH, 8, .inr (.inr (.inr (.inr (fun i => some (tar i))))))), (ta2, .inl (kI, 8, .inl bz))] : va_W) ++ (gJ kJ 8 65 tar M ++ ([] : va_W))) s.heap.size = A at hD ⊢
  have hA : ∀ q : Nat, s.heap.size ≤ q → A q := fun q h => by rw [← hAe]; exact Or.inr h
  have hS : va_S A s.heap s.heap [] := va_S.rf
  have hP : va_P D rcl (([(h0, .inr (2, [.ref ta0, .long dn, .int (nI hh), .int (nI ww), .ref ta1, .ref ta2])), (ta0, .inl (kI, 63, .inl voc)), (ta1, .inl (kH, 8, .inr (.inr (.inr (.inr (fun i => some (tar i))))))), (ta2, .inl (kI, 8, .inl bz))] : va_W) ++ (gJ kJ 8 65 tar M ++ ([] : va_W))) s.heap := hP
  have hl := lv_entry ([.ref h0, .int (nI st), .long cst]) (n := 6) (Nat.le_of_ble_eq_true rfl)
  rw [lg_entry_eq]
  generalize (lg_sl ([.ref h0, .int (nI st), .long cst]) ++ List.replicate (6 - (lg_sl ([.ref h0, .int (nI st), .long cst])).length) Slot.unset).toArray = ls at hl ⊢
  have hl : lv_has ls 6 [(0, .ref h0), (1, .int (nI st)), (2, .long cst)] := hl
  have LP43 : ∀ (dd : Nat) (k : Nat) (M9 : Nat → Nat → Int64) (H : Heap) (locs : List Loc) (ls : Array Slot), hh - k < dd → (2 ≤ k ∧ k ≤ 8) → va_P D rcl (([(h0, .inr (2, [.ref ta0, .long dn, .int (nI hh), .int (nI ww), .ref ta1, .ref ta2])), (ta0, .inl (kI, 63, .inl voc)), (ta1, .inl (kH, 8, .inr (.inr (.inr (.inr (fun i => some (tar i))))))), (ta2, .inl (kI, 8, .inl bz))] : va_W) ++ (gJ kJ 8 65 tar M9 ++ ([] : va_W))) H → va_D A (([(h0, .inr (2, [.ref ta0, .long dn, .int (nI hh), .int (nI ww), .ref ta1, .ref ta2])), (ta0, .inl (kI, 63, .inl voc)), (ta1, .inl (kH, 8, .inr (.inr (.inr (.inr (fun i => some (tar i))))))), (ta2, .inl (kI, 8, .inl bz))] : va_W) ++ (gJ kJ 8 65 tar M9 ++ ([] : va_W))) → va_S A s.heap H locs → lv_has ls 6 [(0, .ref h0), (1, .int (nI st)), (2, .long cst), (4, .int (nI ww)), (5, .int (nI k))] → W p l e (headSpec wT_addRound (rmL 1 0 0)).room s m ([.ref h0, .int (nI st), .long cst] : List Value).toArray below meth c H locs 0 0 (MQ below (va_Qi (fun (r : Int32) (v9 : Nat → Nat → Int64) => r = nI ww) (fun v9 t => va_P D rcl (([(h0, .inr (2, [.ref ta0, .long dn, .int (nI hh), .int (nI (ww + 1)), .ref ta1, .ref ta2])), (ta0, .inl (kI, 63, .inl voc)), (ta1, .inl (kH, 8, .inr (.inr (.inr (.inr (fun i => some (tar i))))))), (ta2, .inl (kI, 8, .inl bz))] : va_W) ++ (gJ kJ 8 65 tar v9 ++ ([] : va_W))) t.heap ∧ va_K D rcl (TY kI kJ kZ kG kH) t ∧ va_D A (([(h0, .inr (2, [.ref ta0, .long dn, .int (nI hh), .int (nI (ww + 1)), .ref ta1, .ref ta2])), (ta0, .inl (kI, 63, .inl voc)), (ta1, .inl (kH, 8, .inr (.inr (.inr (.inr (fun i => some (tar i))))))), (ta2, .inl (kI, 8, .inl bz))] : va_W) ++ (gJ kJ 8 65 tar v9 ++ ([] : va_W)))) A) ([.ref h0, .int (nI st), .long cst] : List Value).toArray s 0 0 A) (F0 m 43 ls []) := by
    intro dd
    induction dd with
    | zero =>
      intro k M9 H locs ls hm
      exact absurd hm (Nat.not_lt_zero _)
    | succ dd ihLP43 =>
      intro k M9 H locs ls hm hk hP hD hS hl
      refine lv_iload hx hb dT_addRound_43 (lv_at hl 4 rfl) ?_
      refine lv_aload_n hx hb dT_addRound_45 rfl (lv_at hl 0 rfl) ?_
      refine va_get (D := D) (cl := rcl) (ci := 2) (v := .int (nI hh)) (C := NT) (T := TT) (N := 6) hx hb hts (fun w h => gw_t w (uwT w h)) hown hK hP 0 rfl rfl 2 (by decide) (hts _ (gw_t _ hw117)) (fun _ h9 => h9) rfl dT_addRound_46 ?_
      refine lv_icmp_ge (tgt := 84) hx hb dT_addRound_49 (by decide) (fun c49 => ?_) (fun c49 => ?_)
      · have c49 : hh ≤ k := (nI_leI (a := hh) (b := k) (by omega) (by omega)).mp c49
        refine lv_aload_n hx hb dT_addRound_84 rfl (lv_at hl 0 rfl) ?_
        refine lv_iload hx hb dT_addRound_85 (lv_at hl 3 rfl) ?_
        refine lv_iconst (v := 1) hx hb dT_addRound_87 (by decide) ?_
        refine lv_iadd hx hb dT_addRound_88 ?_
        refine lc_i (y := nI (ww + 1)) (nI_add ww 1) ?_
        refine va_put (D := D) (cl := rcl) (ci := 2) (v := .int (nI (ww + 1))) (ty := .int) (C := NT) (T := TT) (N := 6) hx hb hts (fun w h => gw_t w (uwT w h)) tyT tyT_ok nmT hown hK hP hD hS 0 rfl rfl 3 (by decide) (hts _ (gw_t _ hw118)) (fun _ h9 => h9) rfl (by decide +kernel) (rfl) (rfl) (Nat.le_of_ble_eq_true rfl) dT_addRound_89 (fun H locs hP hD hS => ?_)
        rw [setX (X := [(h0, .inr (2, [.ref ta0, .long dn, .int (nI hh), .int (nI ww), .ref ta1, .ref ta2])), (ta0, .inl (kI, 63, .inl voc)), (ta1, .inl (kH, 8, .inr (.inr (.inr (.inr (fun i => some (tar i))))))), (ta2, .inl (kI, 8, .inl bz))]) (k := 0) (Nat.le_of_ble_eq_true rfl)] at hP hD
        have hP : va_P D rcl (([(h0, .inr (2, [.ref ta0, .long dn, .int (nI hh), .int (nI (ww + 1)), .ref ta1, .ref ta2])), (ta0, .inl (kI, 63, .inl voc)), (ta1, .inl (kH, 8, .inr (.inr (.inr (.inr (fun i => some (tar i))))))), (ta2, .inl (kI, 8, .inl bz))] : va_W) ++ (gJ kJ 8 65 tar M9 ++ ([] : va_W))) H := hP
        have hD : va_D A (([(h0, .inr (2, [.ref ta0, .long dn, .int (nI hh), .int (nI (ww + 1)), .ref ta1, .ref ta2])), (ta0, .inl (kI, 63, .inl voc)), (ta1, .inl (kH, 8, .inr (.inr (.inr (.inr (fun i => some (tar i))))))), (ta2, .inl (kI, 8, .inl bz))] : va_W) ++ (gJ kJ 8 65 tar M9 ++ ([] : va_W))) := hD
        refine lv_iload hx hb dT_addRound_92 (lv_at hl 3 rfl) ?_
        refine W.widen (k := 0) (n := 0) (by omega) (by omega) ?_
        exact W.iret (v := nI ww) hx hb hr (fun t ht9 hW9 => ⟨⟨_, M9, rfl, rfl, by rw [ht9]; exact hP, va_K.moved hW9.alike hK, hD⟩, hS.F ht9⟩) hS.2.2 dT_addRound_94
      · have c49 : ¬ hh ≤ k := mt (nI_leI (a := hh) (b := k) (by omega) (by omega)).mpr c49
        refine lv_aload_n hx hb dT_addRound_52 rfl (lv_at hl 0 rfl) ?_
        refine va_get (D := D) (cl := rcl) (ci := 2) (v := .ref ta1) (C := NT) (T := TT) (N := 6) hx hb hts (fun w h => gw_t w (uwT w h)) hown hK hP 0 rfl rfl 4 (by decide) (hts _ (gw_t _ hw119)) (fun _ h9 => h9) rfl dT_addRound_53 ?_
        refine lv_iload hx hb dT_addRound_56 (lv_at hl 4 rfl) ?_
        refine ra_a (k := k) (q := tar k) hx hb hK hP 2 4 rfl rfl (by omega) (by omega) (rfl) dT_addRound_58 ?_
        refine lv_iload hx hb dT_addRound_59 (lv_at hl 3 rfl) ?_
        refine lv_iload_n hx hb dT_addRound_61 rfl (lv_at hl 1 rfl) ?_
        refine lv_iload hx hb dT_addRound_62 (lv_at hl 4 rfl) ?_
        refine lv_iconst (v := 2) hx hb dT_addRound_64 (by decide) ?_
        refine lv_isub hx hb dT_addRound_65 ?_
        refine lc_i (y := nI (k - 2)) (pk_sub (a := k) (b := 2) (by omega)) ?_
        refine vp_callSi ((va_runSN (As := [.int (nI st), .int (nI (k - 2))]) (rest := [.int (nI ww), .ref (tar k)]) ⟨hx, hb, hml, hown, hts⟩ (cC_isIn l st (k - 2) (by omega) (by omega)) ⟨va_cnB (host := "RoundColumns") 2 hts (gw_good gw_t (gw_c hw341 gw_s)) rfl rfl rfl (hN.1 _ (by decide +kernel)) (hts _ (gw_t _ hw1)) (by decide +kernel) ⟨Nat.le_of_ble_eq_true rfl, Nat.le_of_ble_eq_true rfl⟩, hts _ (gw_t _ hw340), trivial⟩ ⟨fun a U g mk q => ⟨q.1, trivial⟩, fun U hU hW => ⟨rfl, trivial⟩⟩ rfl rfl hl.1 rfl (lv_room (Nat.le_of_ble_eq_true rfl)) dT_addRound_66 ⟨Nat.le_of_ble_eq_true rfl, Nat.le_of_ble_eq_true rfl⟩).run) (fun r66 hr66 => ?_)
        refine lv_if_eq (tgt := 76) hx hb dT_addRound_69 (by decide) (fun c69 => ?_) (fun c69 => ?_)
        · refine lv_lconst (v := 0) hx hb dT_addRound_76 (by decide) ?_
          refine wa_l (k := ww) hx hb hK hP hD hS (4 + k) 1 (gr_get (X := ([(h0, .inr (2, [.ref ta0, .long dn, .int (nI hh), .int (nI ww), .ref ta1, .ref ta2])), (ta0, .inl (kI, 63, .inl voc)), (ta1, .inl (kH, 8, .inr (.inr (.inr (.inr (fun i => some (tar i))))))), (ta2, .inl (kI, 8, .inl bz))] : va_W)) (by omega)) rfl (by omega) (by omega) dT_addRound_77 (fun H locs hP hD hS => ?_)
          have eg := gJ_set (X := ([(h0, .inr (2, [.ref ta0, .long dn, .int (nI hh), .int (nI ww), .ref ta1, .ref ta2])), (ta0, .inl (kI, 63, .inl voc)), (ta1, .inl (kH, 8, .inr (.inr (.inr (.inr (fun i => some (tar i))))))), (ta2, .inl (kI, 8, .inl bz))] : va_W)) (Y := ([] : va_W)) (k := kJ) (n := 8) (w := 65) (r := tar) (M := M9) (i := k) (by omega) (vp_updL (M9 k) ww 0)
          have hP := (congrArg (fun z => va_P D rcl z H) eg).mp hP
          have hD := (congrArg (fun z => va_D A z) eg).mp hD
          have hP : va_P D rcl (([(h0, .inr (2, [.ref ta0, .long dn, .int (nI hh), .int (nI ww), .ref ta1, .ref ta2])), (ta0, .inl (kI, 63, .inl voc)), (ta1, .inl (kH, 8, .inr (.inr (.inr (.inr (fun i => some (tar i))))))), (ta2, .inl (kI, 8, .inl bz))] : va_W) ++ (gJ kJ 8 65 tar (up2 M9 k (vp_updL (M9 k) ww 0)) ++ ([] : va_W))) H := hP
          have hD : va_D A (([(h0, .inr (2, [.ref ta0, .long dn, .int (nI hh), .int (nI ww), .ref ta1, .ref ta2])), (ta0, .inl (kI, 63, .inl voc)), (ta1, .inl (kH, 8, .inr (.inr (.inr (.inr (fun i => some (tar i))))))), (ta2, .inl (kI, 8, .inl bz))] : va_W) ++ (gJ kJ 8 65 tar (up2 M9 k (vp_updL (M9 k) ww 0)) ++ ([] : va_W))) := hD
          refine lv_iinc (v := nI (k + 1)) (lv' := [(5, .int (nI (k + 1))), (0, .ref h0), (1, .int (nI st)), (2, .long cst), (4, .int (nI ww))]) hx hb dT_addRound_78 hl (k := 4) rfl (nI_add k 1) (by decide) rfl (fun ls hl => ?_)
          refine lv_goto (tgt := 43) hx hb dT_addRound_81 (by decide) ?_
          exact ihLP43 (k + 1) (up2 M9 k (vp_updL (M9 k) ww 0)) _ _ ls (by omega) (by omega) hP hD hS (lv_sub hl [1, 2, 3, 4, 0] rfl)
        · refine lv_lconst (v := 1) hx hb dT_addRound_72 (by decide) ?_
          refine lv_goto (tgt := 77) hx hb dT_addRound_73 (by decide) ?_
          refine wa_l (k := ww) hx hb hK hP hD hS (4 + k) 1 (gr_get (X := ([(h0, .inr (2, [.ref ta0, .long dn, .int (nI hh), .int (nI ww), .ref ta1, .ref ta2])), (ta0, .inl (kI, 63, .inl voc)), (ta1, .inl (kH, 8, .inr (.inr (.inr (.inr (fun i => some (tar i))))))), (ta2, .inl (kI, 8, .inl bz))] : va_W)) (by omega)) rfl (by omega) (by omega) dT_addRound_77 (fun H locs hP hD hS => ?_)
          have eg := gJ_set (X := ([(h0, .inr (2, [.ref ta0, .long dn, .int (nI hh), .int (nI ww), .ref ta1, .ref ta2])), (ta0, .inl (kI, 63, .inl voc)), (ta1, .inl (kH, 8, .inr (.inr (.inr (.inr (fun i => some (tar i))))))), (ta2, .inl (kI, 8, .inl bz))] : va_W)) (Y := ([] : va_W)) (k := kJ) (n := 8) (w := 65) (r := tar) (M := M9) (i := k) (by omega) (vp_updL (M9 k) ww 1)
          have hP := (congrArg (fun z => va_P D rcl z H) eg).mp hP
          have hD := (congrArg (fun z => va_D A z) eg).mp hD
          have hP : va_P D rcl (([(h0, .inr (2, [.ref ta0, .long dn, .int (nI hh), .int (nI ww), .ref ta1, .ref ta2])), (ta0, .inl (kI, 63, .inl voc)), (ta1, .inl (kH, 8, .inr (.inr (.inr (.inr (fun i => some (tar i))))))), (ta2, .inl (kI, 8, .inl bz))] : va_W) ++ (gJ kJ 8 65 tar (up2 M9 k (vp_updL (M9 k) ww 1)) ++ ([] : va_W))) H := hP
          have hD : va_D A (([(h0, .inr (2, [.ref ta0, .long dn, .int (nI hh), .int (nI ww), .ref ta1, .ref ta2])), (ta0, .inl (kI, 63, .inl voc)), (ta1, .inl (kH, 8, .inr (.inr (.inr (.inr (fun i => some (tar i))))))), (ta2, .inl (kI, 8, .inl bz))] : va_W) ++ (gJ kJ 8 65 tar (up2 M9 k (vp_updL (M9 k) ww 1)) ++ ([] : va_W))) := hD
          refine lv_iinc (v := nI (k + 1)) (lv' := [(5, .int (nI (k + 1))), (0, .ref h0), (1, .int (nI st)), (2, .long cst), (4, .int (nI ww))]) hx hb dT_addRound_78 hl (k := 4) rfl (nI_add k 1) (by decide) rfl (fun ls hl => ?_)
          refine lv_goto (tgt := 43) hx hb dT_addRound_81 (by decide) ?_
          exact ihLP43 (k + 1) (up2 M9 k (vp_updL (M9 k) ww 1)) _ _ ls (by omega) (by omega) hP hD hS (lv_sub hl [1, 2, 3, 4, 0] rfl)
  refine lv_aload_n hx hb dT_addRound_0 rfl (lv_at hl 0 rfl) ?_
  refine va_get (D := D) (cl := rcl) (ci := 2) (v := .int (nI ww)) (C := NT) (T := TT) (N := 6) hx hb hts (fun w h => gw_t w (uwT w h)) hown hK hP 0 rfl rfl 3 (by decide) (hts _ (gw_t _ hw118)) (fun _ h9 => h9) rfl dT_addRound_1 ?_
  refine lv_istore (lv' := [(4, .int (nI ww)), (0, .ref h0), (1, .int (nI st)), (2, .long cst)]) hx hb dT_addRound_4 hl (by decide) rfl (fun ls hl => ?_)
  refine lv_aload_n hx hb dT_addRound_6 rfl (lv_at hl 1 rfl) ?_
  refine va_get (D := D) (cl := rcl) (ci := 2) (v := .ref ta1) (C := NT) (T := TT) (N := 6) hx hb hts (fun w h => gw_t w (uwT w h)) hown hK hP 0 rfl rfl 4 (by decide) (hts _ (gw_t _ hw119)) (fun _ h9 => h9) rfl dT_addRound_7 ?_
  refine lv_iconst (v := 0) hx hb dT_addRound_10 (by decide) ?_
  refine ra_a (k := 0) (q := tar 0) hx hb hK hP 2 4 rfl rfl (by omega) (by omega) (rfl) dT_addRound_11 ?_
  refine lv_iload hx hb dT_addRound_12 (lv_at hl 0 rfl) ?_
  refine lv_ldc2 (v := 2048) (own := NT) hx hb hown (hts _ (gw_t _ hw346)) dT_addRound_14 ?_
  refine lv_lload_n hx hb dT_addRound_17 rfl (lv_at hl 3 rfl) ?_
  refine lv_lmul hx hb dT_addRound_18 ?_
  refine lv_topl (fun v1 ev1 => ?_)
  refine lv_ldc2 (v := 10000000000) (own := NT) hx hb hown (hts _ (gw_t _ hw347)) dT_addRound_19 ?_
  refine lv_iload_n hx hb dT_addRound_22 rfl (lv_at hl 2 rfl) ?_
  refine vp_callSi (W.runS (As := [.int (nI st)]) (rest := [.long 10000000000, .long v1, .int (nI ww), .ref (tar 0)]) ⟨hx, hb, hml, hown, hts⟩ (cJI_bitCount l st hst) ⟨cB 1 hts hw300 hw9 hw338 (by decide +kernel) ⟨Nat.le_of_ble_eq_true rfl, Nat.le_of_ble_eq_true rfl⟩ rfl rfl, hts _ (gw_t _ hw299)⟩ ⟨fun a U g mk q => ⟨q.1, trivial⟩, fun U hU hW => ⟨rfl, trivial⟩⟩ rfl rfl hl.1 rfl (lv_room (Nat.le_of_ble_eq_true rfl)) dT_addRound_23 ⟨Nat.le_of_ble_eq_true rfl, Nat.le_of_ble_eq_true rfl⟩) (fun r23 hr23 => ?_)
  refine lv_i2l (v := r23.toInt64) hx hb dT_addRound_26 rfl ?_
  refine lv_lmul hx hb dT_addRound_27 ?_
  refine lv_topl (fun v2 ev2 => ?_)
  refine lv_lsub hx hb dT_addRound_28 ?_
  refine lv_topl (fun v3 ev3 => ?_)
  refine wa_l (k := ww) hx hb hK hP hD hS (4 + 0) 1 (gr_get (X := ([(h0, .inr (2, [.ref ta0, .long dn, .int (nI hh), .int (nI ww), .ref ta1, .ref ta2])), (ta0, .inl (kI, 63, .inl voc)), (ta1, .inl (kH, 8, .inr (.inr (.inr (.inr (fun i => some (tar i))))))), (ta2, .inl (kI, 8, .inl bz))] : va_W)) (by omega)) rfl (by omega) (by omega) dT_addRound_29 (fun H locs hP hD hS => ?_)
  have eg := gJ_set (X := ([(h0, .inr (2, [.ref ta0, .long dn, .int (nI hh), .int (nI ww), .ref ta1, .ref ta2])), (ta0, .inl (kI, 63, .inl voc)), (ta1, .inl (kH, 8, .inr (.inr (.inr (.inr (fun i => some (tar i))))))), (ta2, .inl (kI, 8, .inl bz))] : va_W)) (Y := ([] : va_W)) (k := kJ) (n := 8) (w := 65) (r := tar) (M := M) (i := 0) (by omega) (vp_updL (M 0) ww v3)
  have hP := (congrArg (fun z => va_P D rcl z H) eg).mp hP
  have hD := (congrArg (fun z => va_D A z) eg).mp hD
  have hP : va_P D rcl (([(h0, .inr (2, [.ref ta0, .long dn, .int (nI hh), .int (nI ww), .ref ta1, .ref ta2])), (ta0, .inl (kI, 63, .inl voc)), (ta1, .inl (kH, 8, .inr (.inr (.inr (.inr (fun i => some (tar i))))))), (ta2, .inl (kI, 8, .inl bz))] : va_W) ++ (gJ kJ 8 65 tar (up2 M 0 (vp_updL (M 0) ww v3)) ++ ([] : va_W))) H := hP
  have hD : va_D A (([(h0, .inr (2, [.ref ta0, .long dn, .int (nI hh), .int (nI ww), .ref ta1, .ref ta2])), (ta0, .inl (kI, 63, .inl voc)), (ta1, .inl (kH, 8, .inr (.inr (.inr (.inr (fun i => some (tar i))))))), (ta2, .inl (kI, 8, .inl bz))] : va_W) ++ (gJ kJ 8 65 tar (up2 M 0 (vp_updL (M 0) ww v3)) ++ ([] : va_W))) := hD
  refine lv_aload_n hx hb dT_addRound_30 rfl (lv_at hl 1 rfl) ?_
  refine va_get (D := D) (cl := rcl) (ci := 2) (v := .ref ta1) (C := NT) (T := TT) (N := 6) hx hb hts (fun w h => gw_t w (uwT w h)) hown hK hP 0 rfl rfl 4 (by decide) (hts _ (gw_t _ hw119)) (fun _ h9 => h9) rfl dT_addRound_31 ?_
  refine lv_iconst (v := 1) hx hb dT_addRound_34 (by decide) ?_
  refine ra_a (k := 1) (q := tar 1) hx hb hK hP 2 4 rfl rfl (by omega) (by omega) (rfl) dT_addRound_35 ?_
  refine lv_iload hx hb dT_addRound_36 (lv_at hl 0 rfl) ?_
  refine lv_lconst (v := 1) hx hb dT_addRound_38 (by decide) ?_
  refine wa_l (k := ww) hx hb hK hP hD hS (4 + 1) 1 (gr_get (X := ([(h0, .inr (2, [.ref ta0, .long dn, .int (nI hh), .int (nI ww), .ref ta1, .ref ta2])), (ta0, .inl (kI, 63, .inl voc)), (ta1, .inl (kH, 8, .inr (.inr (.inr (.inr (fun i => some (tar i))))))), (ta2, .inl (kI, 8, .inl bz))] : va_W)) (by omega)) rfl (by omega) (by omega) dT_addRound_39 (fun H locs hP hD hS => ?_)
  have eg := gJ_set (X := ([(h0, .inr (2, [.ref ta0, .long dn, .int (nI hh), .int (nI ww), .ref ta1, .ref ta2])), (ta0, .inl (kI, 63, .inl voc)), (ta1, .inl (kH, 8, .inr (.inr (.inr (.inr (fun i => some (tar i))))))), (ta2, .inl (kI, 8, .inl bz))] : va_W)) (Y := ([] : va_W)) (k := kJ) (n := 8) (w := 65) (r := tar) (M := up2 M 0 (vp_updL (M 0) ww v3)) (i := 1) (by omega) (vp_updL ((up2 M 0 (vp_updL (M 0) ww v3)) 1) ww 1)
  have hP := (congrArg (fun z => va_P D rcl z H) eg).mp hP
  have hD := (congrArg (fun z => va_D A z) eg).mp hD
  have hP : va_P D rcl (([(h0, .inr (2, [.ref ta0, .long dn, .int (nI hh), .int (nI ww), .ref ta1, .ref ta2])), (ta0, .inl (kI, 63, .inl voc)), (ta1, .inl (kH, 8, .inr (.inr (.inr (.inr (fun i => some (tar i))))))), (ta2, .inl (kI, 8, .inl bz))] : va_W) ++ (gJ kJ 8 65 tar (up2 (up2 M 0 (vp_updL (M 0) ww v3)) 1 (vp_updL ((up2 M 0 (vp_updL (M 0) ww v3)) 1) ww 1)) ++ ([] : va_W))) H := hP
  have hD : va_D A (([(h0, .inr (2, [.ref ta0, .long dn, .int (nI hh), .int (nI ww), .ref ta1, .ref ta2])), (ta0, .inl (kI, 63, .inl voc)), (ta1, .inl (kH, 8, .inr (.inr (.inr (.inr (fun i => some (tar i))))))), (ta2, .inl (kI, 8, .inl bz))] : va_W) ++ (gJ kJ 8 65 tar (up2 (up2 M 0 (vp_updL (M 0) ww v3)) 1 (vp_updL ((up2 M 0 (vp_updL (M 0) ww v3)) 1) ww 1)) ++ ([] : va_W))) := hD
  refine lv_iconst (v := 2) hx hb dT_addRound_40 (by decide) ?_
  refine lv_istore (lv' := [(5, .int 2), (4, .int (nI ww)), (0, .ref h0), (1, .int (nI st)), (2, .long cst)]) hx hb dT_addRound_41 hl (by decide) rfl (fun ls hl => ?_)
  exact LP43 _ 2 (up2 (up2 M 0 (vp_updL (M 0) ww v3)) 1 (vp_updL ((up2 M 0 (vp_updL (M 0) ww v3)) 1) ww 1)) _ _ ls (Nat.lt_succ_self _) (by omega) hP hD hS (lv_sub hl [2, 3, 4, 1, 0] rfl)

set_option maxHeartbeats 4000000 in
set_option maxRecDepth 100000 in
theorem cT_lay (l : Launch) (D : va_G) (kI kJ kZ kG kH : ClassId) (h0 : Nat) (ta0 : Nat) (ta1 : Nat) (ta2 : Nat) (tar : Nat → Nat) (dn : Int64) (hh : Nat) (ww : Nat) (voc : Nat → Int32) (M : Nat → Nat → Int64) (bz : Nat → Int32) (rd : Nat) (tw : Nat) (q0 : Nat) (q1 : Nat) (q2 : Nat) (q3 : Nat) (q4 : Nat) (q5 : Nat) (q6 : Nat) (q7 : Nat) (bn : Nat) (ld : Int64) (vh : Int32) (lc : Nat) (cc : Nat) (cs : Nat → Nat) (kg : Nat → Int64) (re : Nat → Int32) (ro : Nat → Int32) (ba : Nat → Int32) (co : Nat → Int64) (od : Nat → Int32) (rw : Nat → Int32) (se : Nat) (hbn : bn ≤ 6) (hcc : cc ≤ 63) (hcs : ∀ j, j < 63 → cs j < 64) (hse : se < 64) (hvo : VO voc) (sz : Nat) : Met l yT_lay wT_lay (rmL 2 0 0) (va_Pc [.ref h0, .ref rd, .int (nI se)] (fun U => U.heap.size = sz ∧ wd D kI kJ kZ kG kH (([(h0, .inr (2, [.ref ta0, .long dn, .int (nI hh), .int (nI ww), .ref ta1, .ref ta2])), (ta0, .inl (kI, 63, .inl voc)), (ta1, .inl (kH, 8, .inr (.inr (.inr (.inr (fun i => some (tar i))))))), (ta2, .inl (kI, 8, .inl bz)), (rd, .inr (4, [.ref tw, .int (nI bn), .long ld, .int vh, .int (nI lc), .int (nI cc), .ref q0, .ref q1, .ref q2, .ref q3, .ref q4, .ref q5, .ref q6, .ref q7])), (q0, .inl (kI, 63, .inl (bsI cs))), (q1, .inl (kJ, 64, .inr (.inl kg))), (q2, .inl (kI, 64, .inl re)), (q3, .inl (kI, 64, .inl ro)), (q4, .inl (kZ, 64, .inl ba)), (q5, .inl (kJ, 64, .inr (.inl co))), (q6, .inl (kI, 384, .inl od)), (q7, .inl (kI, 6, .inl rw))] : va_W) ++ (gJ kJ 8 65 tar M ++ ([] : va_W))) U ∧ va_D (fun _ => True) (([(h0, .inr (2, [.ref ta0, .long dn, .int (nI hh), .int (nI ww), .ref ta1, .ref ta2])), (ta0, .inl (kI, 63, .inl voc)), (ta1, .inl (kH, 8, .inr (.inr (.inr (.inr (fun i => some (tar i))))))), (ta2, .inl (kI, 8, .inl bz)), (rd, .inr (4, [.ref tw, .int (nI bn), .long ld, .int vh, .int (nI lc), .int (nI cc), .ref q0, .ref q1, .ref q2, .ref q3, .ref q4, .ref q5, .ref q6, .ref q7])), (q0, .inl (kI, 63, .inl (bsI cs))), (q1, .inl (kJ, 64, .inr (.inl kg))), (q2, .inl (kI, 64, .inl re)), (q3, .inl (kI, 64, .inl ro)), (q4, .inl (kZ, 64, .inl ba)), (q5, .inl (kJ, 64, .inr (.inl co))), (q6, .inl (kI, 384, .inl od)), (q7, .inl (kI, 6, .inl rw))] : va_W) ++ (gJ kJ 8 65 tar M ++ ([] : va_W))))) (va_Qv (fun v9 : Nat × (Nat → Int32) × (Nat → Nat → Int64) × (Nat → Int32) => (2 ≤ v9.1 ∧ v9.1 ≤ 65) ∧ VO v9.2.1) (fun v9 t => va_P D rcl (([(h0, .inr (2, [.ref ta0, .long 1, .int (nI (2 + bn)), .int (nI v9.1), .ref ta1, .ref ta2])), (ta0, .inl (kI, 63, .inl v9.2.1)), (ta1, .inl (kH, 8, .inr (.inr (.inr (.inr (fun i => some (tar i))))))), (ta2, .inl (kI, 8, .inl v9.2.2.2)), (rd, .inr (4, [.ref tw, .int (nI bn), .long ld, .int vh, .int (nI lc), .int (nI cc), .ref q0, .ref q1, .ref q2, .ref q3, .ref q4, .ref q5, .ref q6, .ref q7])), (q0, .inl (kI, 63, .inl (bsI cs))), (q1, .inl (kJ, 64, .inr (.inl kg))), (q2, .inl (kI, 64, .inl re)), (q3, .inl (kI, 64, .inl ro)), (q4, .inl (kZ, 64, .inl ba)), (q5, .inl (kJ, 64, .inr (.inl co))), (q6, .inl (kI, 384, .inl od)), (q7, .inl (kI, 6, .inl rw))] : va_W) ++ (gJ kJ 8 65 tar v9.2.2.1 ++ ([] : va_W))) t.heap ∧ va_K D rcl (TY kI kJ kZ kG kH) t ∧ va_D (va_A (([(h0, .inr (2, [.ref ta0, .long dn, .int (nI hh), .int (nI ww), .ref ta1, .ref ta2])), (ta0, .inl (kI, 63, .inl voc)), (ta1, .inl (kH, 8, .inr (.inr (.inr (.inr (fun i => some (tar i))))))), (ta2, .inl (kI, 8, .inl bz)), (rd, .inr (4, [.ref tw, .int (nI bn), .long ld, .int vh, .int (nI lc), .int (nI cc), .ref q0, .ref q1, .ref q2, .ref q3, .ref q4, .ref q5, .ref q6, .ref q7])), (q0, .inl (kI, 63, .inl (bsI cs))), (q1, .inl (kJ, 64, .inr (.inl kg))), (q2, .inl (kI, 64, .inl re)), (q3, .inl (kI, 64, .inl ro)), (q4, .inl (kZ, 64, .inl ba)), (q5, .inl (kJ, 64, .inr (.inl co))), (q6, .inl (kI, 384, .inl od)), (q7, .inl (kI, 6, .inl rw))] : va_W) ++ (gJ kJ 8 65 tar M ++ ([] : va_W))) sz) (([(h0, .inr (2, [.ref ta0, .long 1, .int (nI (2 + bn)), .int (nI v9.1), .ref ta1, .ref ta2])), (ta0, .inl (kI, 63, .inl v9.2.1)), (ta1, .inl (kH, 8, .inr (.inr (.inr (.inr (fun i => some (tar i))))))), (ta2, .inl (kI, 8, .inl v9.2.2.2)), (rd, .inr (4, [.ref tw, .int (nI bn), .long ld, .int vh, .int (nI lc), .int (nI cc), .ref q0, .ref q1, .ref q2, .ref q3, .ref q4, .ref q5, .ref q6, .ref q7])), (q0, .inl (kI, 63, .inl (bsI cs))), (q1, .inl (kJ, 64, .inr (.inl kg))), (q2, .inl (kI, 64, .inl re)), (q3, .inl (kI, 64, .inl ro)), (q4, .inl (kZ, 64, .inl ba)), (q5, .inl (kJ, 64, .inr (.inl co))), (q6, .inl (kI, 384, .inl od)), (q7, .inl (kI, 6, .inl rw))] : va_W) ++ (gJ kJ 8 65 tar v9.2.2.1 ++ ([] : va_W)))) (va_A (([(h0, .inr (2, [.ref ta0, .long dn, .int (nI hh), .int (nI ww), .ref ta1, .ref ta2])), (ta0, .inl (kI, 63, .inl voc)), (ta1, .inl (kH, 8, .inr (.inr (.inr (.inr (fun i => some (tar i))))))), (ta2, .inl (kI, 8, .inl bz)), (rd, .inr (4, [.ref tw, .int (nI bn), .long ld, .int vh, .int (nI lc), .int (nI cc), .ref q0, .ref q1, .ref q2, .ref q3, .ref q4, .ref q5, .ref q6, .ref q7])), (q0, .inl (kI, 63, .inl (bsI cs))), (q1, .inl (kJ, 64, .inr (.inl kg))), (q2, .inl (kI, 64, .inl re)), (q3, .inl (kI, 64, .inl ro)), (q4, .inl (kZ, 64, .inl ba)), (q5, .inl (kJ, 64, .inr (.inl co))), (q6, .inl (kI, 384, .inl od)), (q7, .inl (kI, 6, .inl rw))] : va_W) ++ (gJ kJ 8 65 tar M ++ ([] : va_W))) sz)) 0 0 (va_A (([(h0, .inr (2, [.ref ta0, .long dn, .int (nI hh), .int (nI ww), .ref ta1, .ref ta2])), (ta0, .inl (kI, 63, .inl voc)), (ta1, .inl (kH, 8, .inr (.inr (.inr (.inr (fun i => some (tar i))))))), (ta2, .inl (kI, 8, .inl bz)), (rd, .inr (4, [.ref tw, .int (nI bn), .long ld, .int vh, .int (nI lc), .int (nI cc), .ref q0, .ref q1, .ref q2, .ref q3, .ref q4, .ref q5, .ref q6, .ref q7])), (q0, .inl (kI, 63, .inl (bsI cs))), (q1, .inl (kJ, 64, .inr (.inl kg))), (q2, .inl (kI, 64, .inl re)), (q3, .inl (kI, 64, .inl ro)), (q4, .inl (kZ, 64, .inl ba)), (q5, .inl (kJ, 64, .inr (.inl co))), (q6, .inl (kI, 384, .inl od)), (q7, .inl (kI, 6, .inl rw))] : va_W) ++ (gJ kJ 8 65 tar M ++ ([] : va_W))) sz) := by
  refine Met.ofW (cc := bT_lay) (maxL := 6) (ret := none) (by decide) rfl ?_
  intro p e s m args below meth c s₁ B hml hv
  obtain ⟨rfl, hsz, ⟨hP, hK, hN⟩, hD0⟩ := hv
  have hx := B.exec
  have hb := B.bytes
  have hr := B.returns
  have hts := atoms_spec (ws := wT_lay) B.pre
  have hown : s.vm.findClass NT = some m.cls := findClass_of_methodNamed B.named
  have hlocks := B.notSynchronized
  subst hsz
  have hD := hD0.self (sz := s.heap.size)
  generalize hAe : va_A (([(h0, .inr (2, [.ref ta0, .long dn, .int (nI hh), .int (nI ww), .ref ta1, .ref ta2])), (ta0, .inl (kI, 63, .inl voc)), (ta1, .inl (kH, 8, .inr (.inr (.inr (.inr (fun i => some (tar i))))))), (ta2, .inl (kI, 8, .inl bz)), (rd, .inr (4, [.ref tw, .int (nI bn), .long ld, .int vh, .int (nI lc), .int (nI cc), .ref q0, .ref q1, .ref q2, .ref q3, .ref q4, .ref q5, .ref q6, .ref q7])), (q0, .inl (kI, 63, .inl (bsI cs))), (q1, .inl (kJ, 64, .inr (.inl kg))), (q2, .inl (kI, 64, .inl re)), (q3, .inl (kI, 64, .inl ro)), (q4, .inl (kZ, 64, .inl ba)), (q5, .inl (kJ, 64, .inr (.inl co))), (q6, .inl (kI, 384, .inl od)), (q7, .inl (kI, 6, .inl rw))] : va_W) ++ (gJ kJ 8 65 tar M ++ ([] : va_W))) s.heap.size = A at hD ⊢
  have hA : ∀ q : Nat, s.heap.size ≤ q → A q := fun q h => by rw [← hAe]; exact Or.inr h
  have hS : va_S A s.heap s.heap [] := va_S.rf
  have hP : va_P D rcl (([(h0, .inr (2, [.ref ta0, .long dn, .int (nI hh), .int (nI ww), .ref ta1, .ref ta2])), (ta0, .inl (kI, 63, .inl voc)), (ta1, .inl (kH, 8, .inr (.inr (.inr (.inr (fun i => some (tar i))))))), (ta2, .inl (kI, 8, .inl bz)), (rd, .inr (4, [.ref tw, .int (nI bn), .long ld, .int vh, .int (nI lc), .int (nI cc), .ref q0, .ref q1, .ref q2, .ref q3, .ref q4, .ref q5, .ref q6, .ref q7])), (q0, .inl (kI, 63, .inl (bsI cs))), (q1, .inl (kJ, 64, .inr (.inl kg))), (q2, .inl (kI, 64, .inl re)), (q3, .inl (kI, 64, .inl ro)), (q4, .inl (kZ, 64, .inl ba)), (q5, .inl (kJ, 64, .inr (.inl co))), (q6, .inl (kI, 384, .inl od)), (q7, .inl (kI, 6, .inl rw))] : va_W) ++ (gJ kJ 8 65 tar M ++ ([] : va_W))) s.heap := hP
  have hl := lv_entry ([.ref h0, .ref rd, .int (nI se)]) (n := 6) (Nat.le_of_ble_eq_true rfl)
  rw [lg_entry_eq]
  generalize (lg_sl ([.ref h0, .ref rd, .int (nI se)]) ++ List.replicate (6 - (lg_sl ([.ref h0, .ref rd, .int (nI se)])).length) Slot.unset).toArray = ls at hl ⊢
  have hl : lv_has ls 6 [(0, .ref h0), (1, .ref rd), (2, .int (nI se))] := hl
  refine lv_aload_n hx hb dT_lay_0 rfl (lv_at hl 0 rfl) ?_
  refine lv_iconst (v := 2) hx hb dT_lay_1 (by decide) ?_
  refine lv_aload_n hx hb dT_lay_2 rfl (lv_at hl 1 rfl) ?_
  refine va_get (D := D) (cl := rcl) (ci := 4) (v := .int (nI bn)) (C := NR) (T := TR) (N := 14) hx hb hts (fun w h => gw_t w (uwR w h)) hown hK hP 4 rfl rfl 1 (by decide) (hts _ (gw_t _ hw163)) (fun _ h9 => h9) rfl dT_lay_3 ?_
  refine lv_iadd hx hb dT_lay_6 ?_
  refine lc_i (y := nI (2 + bn)) (nI_add 2 bn) ?_
  refine va_put (D := D) (cl := rcl) (ci := 2) (v := .int (nI (2 + bn))) (ty := .int) (C := NT) (T := TT) (N := 6) hx hb hts (fun w h => gw_t w (uwT w h)) tyT tyT_ok nmT hown hK hP hD hS 0 rfl rfl 2 (by decide) (hts _ (gw_t _ hw117)) (fun _ h9 => h9) rfl (by decide +kernel) (rfl) (rfl) (Nat.le_of_ble_eq_true rfl) dT_lay_7 (fun H locs hP hD hS => ?_)
  rw [setX (X := [(h0, .inr (2, [.ref ta0, .long dn, .int (nI hh), .int (nI ww), .ref ta1, .ref ta2])), (ta0, .inl (kI, 63, .inl voc)), (ta1, .inl (kH, 8, .inr (.inr (.inr (.inr (fun i => some (tar i))))))), (ta2, .inl (kI, 8, .inl bz)), (rd, .inr (4, [.ref tw, .int (nI bn), .long ld, .int vh, .int (nI lc), .int (nI cc), .ref q0, .ref q1, .ref q2, .ref q3, .ref q4, .ref q5, .ref q6, .ref q7])), (q0, .inl (kI, 63, .inl (bsI cs))), (q1, .inl (kJ, 64, .inr (.inl kg))), (q2, .inl (kI, 64, .inl re)), (q3, .inl (kI, 64, .inl ro)), (q4, .inl (kZ, 64, .inl ba)), (q5, .inl (kJ, 64, .inr (.inl co))), (q6, .inl (kI, 384, .inl od)), (q7, .inl (kI, 6, .inl rw))]) (k := 0) (Nat.le_of_ble_eq_true rfl)] at hP hD
  have hP : va_P D rcl (([(h0, .inr (2, [.ref ta0, .long dn, .int (nI (2 + bn)), .int (nI ww), .ref ta1, .ref ta2])), (ta0, .inl (kI, 63, .inl voc)), (ta1, .inl (kH, 8, .inr (.inr (.inr (.inr (fun i => some (tar i))))))), (ta2, .inl (kI, 8, .inl bz)), (rd, .inr (4, [.ref tw, .int (nI bn), .long ld, .int vh, .int (nI lc), .int (nI cc), .ref q0, .ref q1, .ref q2, .ref q3, .ref q4, .ref q5, .ref q6, .ref q7])), (q0, .inl (kI, 63, .inl (bsI cs))), (q1, .inl (kJ, 64, .inr (.inl kg))), (q2, .inl (kI, 64, .inl re)), (q3, .inl (kI, 64, .inl ro)), (q4, .inl (kZ, 64, .inl ba)), (q5, .inl (kJ, 64, .inr (.inl co))), (q6, .inl (kI, 384, .inl od)), (q7, .inl (kI, 6, .inl rw))] : va_W) ++ (gJ kJ 8 65 tar M ++ ([] : va_W))) H := hP
  have hD : va_D A (([(h0, .inr (2, [.ref ta0, .long dn, .int (nI (2 + bn)), .int (nI ww), .ref ta1, .ref ta2])), (ta0, .inl (kI, 63, .inl voc)), (ta1, .inl (kH, 8, .inr (.inr (.inr (.inr (fun i => some (tar i))))))), (ta2, .inl (kI, 8, .inl bz)), (rd, .inr (4, [.ref tw, .int (nI bn), .long ld, .int vh, .int (nI lc), .int (nI cc), .ref q0, .ref q1, .ref q2, .ref q3, .ref q4, .ref q5, .ref q6, .ref q7])), (q0, .inl (kI, 63, .inl (bsI cs))), (q1, .inl (kJ, 64, .inr (.inl kg))), (q2, .inl (kI, 64, .inl re)), (q3, .inl (kI, 64, .inl ro)), (q4, .inl (kZ, 64, .inl ba)), (q5, .inl (kJ, 64, .inr (.inl co))), (q6, .inl (kI, 384, .inl od)), (q7, .inl (kI, 6, .inl rw))] : va_W) ++ (gJ kJ 8 65 tar M ++ ([] : va_W))) := hD
  refine lv_aload_n hx hb dT_lay_10 rfl (lv_at hl 0 rfl) ?_
  refine lv_iconst (v := 2) hx hb dT_lay_11 (by decide) ?_
  refine va_put (D := D) (cl := rcl) (ci := 2) (v := .int 2) (ty := .int) (C := NT) (T := TT) (N := 6) hx hb hts (fun w h => gw_t w (uwT w h)) tyT tyT_ok nmT hown hK hP hD hS 0 rfl rfl 3 (by decide) (hts _ (gw_t _ hw118)) (fun _ h9 => h9) rfl (by decide +kernel) (rfl) (rfl) (Nat.le_of_ble_eq_true rfl) dT_lay_12 (fun H locs hP hD hS => ?_)
  rw [setX (X := [(h0, .inr (2, [.ref ta0, .long dn, .int (nI (2 + bn)), .int (nI ww), .ref ta1, .ref ta2])), (ta0, .inl (kI, 63, .inl voc)), (ta1, .inl (kH, 8, .inr (.inr (.inr (.inr (fun i => some (tar i))))))), (ta2, .inl (kI, 8, .inl bz)), (rd, .inr (4, [.ref tw, .int (nI bn), .long ld, .int vh, .int (nI lc), .int (nI cc), .ref q0, .ref q1, .ref q2, .ref q3, .ref q4, .ref q5, .ref q6, .ref q7])), (q0, .inl (kI, 63, .inl (bsI cs))), (q1, .inl (kJ, 64, .inr (.inl kg))), (q2, .inl (kI, 64, .inl re)), (q3, .inl (kI, 64, .inl ro)), (q4, .inl (kZ, 64, .inl ba)), (q5, .inl (kJ, 64, .inr (.inl co))), (q6, .inl (kI, 384, .inl od)), (q7, .inl (kI, 6, .inl rw))]) (k := 0) (Nat.le_of_ble_eq_true rfl)] at hP hD
  have hP : va_P D rcl (([(h0, .inr (2, [.ref ta0, .long dn, .int (nI (2 + bn)), .int 2, .ref ta1, .ref ta2])), (ta0, .inl (kI, 63, .inl voc)), (ta1, .inl (kH, 8, .inr (.inr (.inr (.inr (fun i => some (tar i))))))), (ta2, .inl (kI, 8, .inl bz)), (rd, .inr (4, [.ref tw, .int (nI bn), .long ld, .int vh, .int (nI lc), .int (nI cc), .ref q0, .ref q1, .ref q2, .ref q3, .ref q4, .ref q5, .ref q6, .ref q7])), (q0, .inl (kI, 63, .inl (bsI cs))), (q1, .inl (kJ, 64, .inr (.inl kg))), (q2, .inl (kI, 64, .inl re)), (q3, .inl (kI, 64, .inl ro)), (q4, .inl (kZ, 64, .inl ba)), (q5, .inl (kJ, 64, .inr (.inl co))), (q6, .inl (kI, 384, .inl od)), (q7, .inl (kI, 6, .inl rw))] : va_W) ++ (gJ kJ 8 65 tar M ++ ([] : va_W))) H := hP
  have hD : va_D A (([(h0, .inr (2, [.ref ta0, .long dn, .int (nI (2 + bn)), .int 2, .ref ta1, .ref ta2])), (ta0, .inl (kI, 63, .inl voc)), (ta1, .inl (kH, 8, .inr (.inr (.inr (.inr (fun i => some (tar i))))))), (ta2, .inl (kI, 8, .inl bz)), (rd, .inr (4, [.ref tw, .int (nI bn), .long ld, .int vh, .int (nI lc), .int (nI cc), .ref q0, .ref q1, .ref q2, .ref q3, .ref q4, .ref q5, .ref q6, .ref q7])), (q0, .inl (kI, 63, .inl (bsI cs))), (q1, .inl (kJ, 64, .inr (.inl kg))), (q2, .inl (kI, 64, .inl re)), (q3, .inl (kI, 64, .inl ro)), (q4, .inl (kZ, 64, .inl ba)), (q5, .inl (kJ, 64, .inr (.inl co))), (q6, .inl (kI, 384, .inl od)), (q7, .inl (kI, 6, .inl rw))] : va_W) ++ (gJ kJ 8 65 tar M ++ ([] : va_W))) := hD
  refine lv_aload_n hx hb dT_lay_15 rfl (lv_at hl 0 rfl) ?_
  refine lv_lconst (v := 1) hx hb dT_lay_16 (by decide) ?_
  refine va_put (D := D) (cl := rcl) (ci := 2) (v := .long 1) (ty := .long) (C := NT) (T := TT) (N := 6) hx hb hts (fun w h => gw_t w (uwT w h)) tyT tyT_ok nmT hown hK hP hD hS 0 rfl rfl 1 (by decide) (hts _ (gw_t _ hw115)) (fun _ h9 => h9) rfl (by decide +kernel) (rfl) (rfl) (Nat.le_of_ble_eq_true rfl) dT_lay_17 (fun H locs hP hD hS => ?_)
  rw [setX (X := [(h0, .inr (2, [.ref ta0, .long dn, .int (nI (2 + bn)), .int 2, .ref ta1, .ref ta2])), (ta0, .inl (kI, 63, .inl voc)), (ta1, .inl (kH, 8, .inr (.inr (.inr (.inr (fun i => some (tar i))))))), (ta2, .inl (kI, 8, .inl bz)), (rd, .inr (4, [.ref tw, .int (nI bn), .long ld, .int vh, .int (nI lc), .int (nI cc), .ref q0, .ref q1, .ref q2, .ref q3, .ref q4, .ref q5, .ref q6, .ref q7])), (q0, .inl (kI, 63, .inl (bsI cs))), (q1, .inl (kJ, 64, .inr (.inl kg))), (q2, .inl (kI, 64, .inl re)), (q3, .inl (kI, 64, .inl ro)), (q4, .inl (kZ, 64, .inl ba)), (q5, .inl (kJ, 64, .inr (.inl co))), (q6, .inl (kI, 384, .inl od)), (q7, .inl (kI, 6, .inl rw))]) (k := 0) (Nat.le_of_ble_eq_true rfl)] at hP hD
  have hP : va_P D rcl (([(h0, .inr (2, [.ref ta0, .long 1, .int (nI (2 + bn)), .int 2, .ref ta1, .ref ta2])), (ta0, .inl (kI, 63, .inl voc)), (ta1, .inl (kH, 8, .inr (.inr (.inr (.inr (fun i => some (tar i))))))), (ta2, .inl (kI, 8, .inl bz)), (rd, .inr (4, [.ref tw, .int (nI bn), .long ld, .int vh, .int (nI lc), .int (nI cc), .ref q0, .ref q1, .ref q2, .ref q3, .ref q4, .ref q5, .ref q6, .ref q7])), (q0, .inl (kI, 63, .inl (bsI cs))), (q1, .inl (kJ, 64, .inr (.inl kg))), (q2, .inl (kI, 64, .inl re)), (q3, .inl (kI, 64, .inl ro)), (q4, .inl (kZ, 64, .inl ba)), (q5, .inl (kJ, 64, .inr (.inl co))), (q6, .inl (kI, 384, .inl od)), (q7, .inl (kI, 6, .inl rw))] : va_W) ++ (gJ kJ 8 65 tar M ++ ([] : va_W))) H := hP
  have hD : va_D A (([(h0, .inr (2, [.ref ta0, .long 1, .int (nI (2 + bn)), .int 2, .ref ta1, .ref ta2])), (ta0, .inl (kI, 63, .inl voc)), (ta1, .inl (kH, 8, .inr (.inr (.inr (.inr (fun i => some (tar i))))))), (ta2, .inl (kI, 8, .inl bz)), (rd, .inr (4, [.ref tw, .int (nI bn), .long ld, .int vh, .int (nI lc), .int (nI cc), .ref q0, .ref q1, .ref q2, .ref q3, .ref q4, .ref q5, .ref q6, .ref q7])), (q0, .inl (kI, 63, .inl (bsI cs))), (q1, .inl (kJ, 64, .inr (.inl kg))), (q2, .inl (kI, 64, .inl re)), (q3, .inl (kI, 64, .inl ro)), (q4, .inl (kZ, 64, .inl ba)), (q5, .inl (kJ, 64, .inr (.inl co))), (q6, .inl (kI, 384, .inl od)), (q7, .inl (kI, 6, .inl rw))] : va_W) ++ (gJ kJ 8 65 tar M ++ ([] : va_W))) := hD
  refine lv_aload_n hx hb dT_lay_20 rfl (lv_at hl 0 rfl) ?_
  refine lv_iload_n hx hb dT_lay_21 rfl (lv_at hl 2 rfl) ?_
  refine lv_aload_n hx hb dT_lay_22 rfl (lv_at hl 1 rfl) ?_
  refine va_get (D := D) (cl := rcl) (ci := 4) (v := .int vh) (C := NR) (T := TR) (N := 14) hx hb hts (fun w h => gw_t w (uwR w h)) hown hK hP 4 rfl rfl 3 (by decide) (hts _ (gw_t _ hw169)) (fun _ h9 => h9) rfl dT_lay_23 ?_
  have hPc := va_P.part (X := [(h0, .inr (2, [.ref ta0, .long 1, .int (nI (2 + bn)), .int 2, .ref ta1, .ref ta2])), (ta0, .inl (kI, 63, .inl voc)), (ta1, .inl (kH, 8, .inr (.inr (.inr (.inr (fun i => some (tar i))))))), (ta2, .inl (kI, 8, .inl bz)), (rd, .inr (4, [.ref tw, .int (nI bn), .long ld, .int vh, .int (nI lc), .int (nI cc), .ref q0, .ref q1, .ref q2, .ref q3, .ref q4, .ref q5, .ref q6, .ref q7])), (q0, .inl (kI, 63, .inl (bsI cs))), (q1, .inl (kJ, 64, .inr (.inl kg))), (q2, .inl (kI, 64, .inl re)), (q3, .inl (kI, 64, .inl ro)), (q4, .inl (kZ, 64, .inl ba)), (q5, .inl (kJ, 64, .inr (.inl co))), (q6, .inl (kI, 384, .inl od)), (q7, .inl (kI, 6, .inl rw))]) (cx := [(h0, .inr (2, [.ref ta0, .long 1, .int (nI (2 + bn)), .int 2, .ref ta1, .ref ta2])), (ta0, .inl (kI, 63, .inl voc)), (ta1, .inl (kH, 8, .inr (.inr (.inr (.inr (fun i => some (tar i))))))), (ta2, .inl (kI, 8, .inl bz))]) (pl := (gJ kJ 8 65 tar M ++ ([] : va_W))) hP [0, 1, 2, 3] rfl
  have hDc := va_D.part (X := [(h0, .inr (2, [.ref ta0, .long 1, .int (nI (2 + bn)), .int 2, .ref ta1, .ref ta2])), (ta0, .inl (kI, 63, .inl voc)), (ta1, .inl (kH, 8, .inr (.inr (.inr (.inr (fun i => some (tar i))))))), (ta2, .inl (kI, 8, .inl bz)), (rd, .inr (4, [.ref tw, .int (nI bn), .long ld, .int vh, .int (nI lc), .int (nI cc), .ref q0, .ref q1, .ref q2, .ref q3, .ref q4, .ref q5, .ref q6, .ref q7])), (q0, .inl (kI, 63, .inl (bsI cs))), (q1, .inl (kJ, 64, .inr (.inl kg))), (q2, .inl (kI, 64, .inl re)), (q3, .inl (kI, 64, .inl ro)), (q4, .inl (kZ, 64, .inl ba)), (q5, .inl (kJ, 64, .inr (.inl co))), (q6, .inl (kI, 384, .inl od)), (q7, .inl (kI, 6, .inl rw))]) (cx := [(h0, .inr (2, [.ref ta0, .long 1, .int (nI (2 + bn)), .int 2, .ref ta1, .ref ta2])), (ta0, .inl (kI, 63, .inl voc)), (ta1, .inl (kH, 8, .inr (.inr (.inr (.inr (fun i => some (tar i))))))), (ta2, .inl (kI, 8, .inl bz))]) (pl := (gJ kJ 8 65 tar M ++ ([] : va_W))) hD [0, 1, 2, 3] (by decide) rfl
  have hFc := va_freeP (X := [(h0, .inr (2, [.ref ta0, .long 1, .int (nI (2 + bn)), .int 2, .ref ta1, .ref ta2])), (ta0, .inl (kI, 63, .inl voc)), (ta1, .inl (kH, 8, .inr (.inr (.inr (.inr (fun i => some (tar i))))))), (ta2, .inl (kI, 8, .inl bz)), (rd, .inr (4, [.ref tw, .int (nI bn), .long ld, .int vh, .int (nI lc), .int (nI cc), .ref q0, .ref q1, .ref q2, .ref q3, .ref q4, .ref q5, .ref q6, .ref q7])), (q0, .inl (kI, 63, .inl (bsI cs))), (q1, .inl (kJ, 64, .inr (.inl kg))), (q2, .inl (kI, 64, .inl re)), (q3, .inl (kI, 64, .inl ro)), (q4, .inl (kZ, 64, .inl ba)), (q5, .inl (kJ, 64, .inr (.inl co))), (q6, .inl (kI, 384, .inl od)), (q7, .inl (kI, 6, .inl rw))]) (cx := [(h0, .inr (2, [.ref ta0, .long 1, .int (nI (2 + bn)), .int 2, .ref ta1, .ref ta2])), (ta0, .inl (kI, 63, .inl voc)), (ta1, .inl (kH, 8, .inr (.inr (.inr (.inr (fun i => some (tar i))))))), (ta2, .inl (kI, 8, .inl bz))]) (pl := (gJ kJ 8 65 tar M ++ ([] : va_W))) hD hS hA [0, 1, 2, 3] rfl
  refine va_callv (va_runV (C := NT) (As := [.int (nI se), .int vh]) (rest := []) ⟨hx, hb, hml, hown, hts⟩ (cT_layStart l D kI kJ kZ kG kH h0 ta0 ta1 ta2 tar 1 (2 + bn) 2 voc M bz se vh (by omega) (by omega) hse H.size) ⟨cB 2 hts hw336 hw6 hw333 (by decide +kernel) ⟨Nat.le_of_ble_eq_true rfl, Nat.le_of_ble_eq_true rfl⟩ rfl rfl, hts _ (gw_t _ hw335), hts _ (gw_t _ hs1)⟩ ⟨fun a U g mk q => ⟨q.1, q.2.1, q.2.2.1.calling g mk a, q.2.2.2⟩, va_recv hK hPc (ci := 2) (q0 := 0) rfl rfl, fun U hU hW => ⟨rfl, by rw [hU], wd.use hPc hK hN hU hW, hDc.weaken (fun _ _ _ _ => trivial)⟩⟩ rfl rfl hl.1 rfl (lv_room (Nat.le_of_ble_eq_true rfl)) dT_lay_26 ⟨Nat.le_of_ble_eq_true rfl, Nat.le_of_ble_eq_true rfl⟩) hS (fun q _ h => hFc q h) hFc (fun u9 t9 H1 locs ht9 hvm9 hr1 hB9 hz9 hk9 hS => ?_)
  obtain ⟨z1, z2⟩ := u9
  obtain ⟨hP1, -, hD1⟩ := hB9
  rw [ht9] at hP1
  obtain ⟨hP, hD⟩ := va_joinP (X := [(h0, .inr (2, [.ref ta0, .long 1, .int (nI (2 + bn)), .int 2, .ref ta1, .ref ta2])), (ta0, .inl (kI, 63, .inl voc)), (ta1, .inl (kH, 8, .inr (.inr (.inr (.inr (fun i => some (tar i))))))), (ta2, .inl (kI, 8, .inl bz)), (rd, .inr (4, [.ref tw, .int (nI bn), .long ld, .int vh, .int (nI lc), .int (nI cc), .ref q0, .ref q1, .ref q2, .ref q3, .ref q4, .ref q5, .ref q6, .ref q7])), (q0, .inl (kI, 63, .inl (bsI cs))), (q1, .inl (kJ, 64, .inr (.inl kg))), (q2, .inl (kI, 64, .inl re)), (q3, .inl (kI, 64, .inl ro)), (q4, .inl (kZ, 64, .inl ba)), (q5, .inl (kJ, 64, .inr (.inl co))), (q6, .inl (kI, 384, .inl od)), (q7, .inl (kI, 6, .inl rw))]) (cx := [(h0, .inr (2, [.ref ta0, .long 1, .int (nI (2 + bn)), .int 2, .ref ta1, .ref ta2])), (ta0, .inl (kI, 63, .inl voc)), (ta1, .inl (kH, 8, .inr (.inr (.inr (.inr (fun i => some (tar i))))))), (ta2, .inl (kI, 8, .inl bz))]) (wr := [(rd, .inr (4, [.ref tw, .int (nI bn), .long ld, .int vh, .int (nI lc), .int (nI cc), .ref q0, .ref q1, .ref q2, .ref q3, .ref q4, .ref q5, .ref q6, .ref q7])), (q0, .inl (kI, 63, .inl (bsI cs))), (q1, .inl (kJ, 64, .inr (.inl kg))), (q2, .inl (kI, 64, .inl re)), (q3, .inl (kI, 64, .inl ro)), (q4, .inl (kZ, 64, .inl ba)), (q5, .inl (kJ, 64, .inr (.inl co))), (q6, .inl (kI, 384, .inl od)), (q7, .inl (kI, 6, .inl rw))]) (rx := [(h0, .inr (2, [.ref ta0, .long 1, .int (nI (2 + bn)), .int (nI 2), .ref ta1, .ref ta2])), (ta0, .inl (kI, 63, .inl voc)), (ta1, .inl (kH, 8, .inr (.inr (.inr (.inr (fun i => some (tar i))))))), (ta2, .inl (kI, 8, .inl z2))]) (pl := (gJ kJ 8 65 tar M ++ ([] : va_W))) (pl1 := (gJ kJ 8 65 tar z1 ++ ([] : va_W))) hP hD [0, 1, 2, 3] [4, 5, 6, 7, 8, 9, 10, 11, 12] rfl rfl (by decide) (by decide) hk9 hFc hP1 hD1
  generalize H1 = H at hP hS ⊢
  have hP : va_P D rcl (([(rd, .inr (4, [.ref tw, .int (nI bn), .long ld, .int vh, .int (nI lc), .int (nI cc), .ref q0, .ref q1, .ref q2, .ref q3, .ref q4, .ref q5, .ref q6, .ref q7])), (q0, .inl (kI, 63, .inl (bsI cs))), (q1, .inl (kJ, 64, .inr (.inl kg))), (q2, .inl (kI, 64, .inl re)), (q3, .inl (kI, 64, .inl ro)), (q4, .inl (kZ, 64, .inl ba)), (q5, .inl (kJ, 64, .inr (.inl co))), (q6, .inl (kI, 384, .inl od)), (q7, .inl (kI, 6, .inl rw)), (h0, .inr (2, [.ref ta0, .long 1, .int (nI (2 + bn)), .int (nI 2), .ref ta1, .ref ta2])), (ta0, .inl (kI, 63, .inl voc)), (ta1, .inl (kH, 8, .inr (.inr (.inr (.inr (fun i => some (tar i))))))), (ta2, .inl (kI, 8, .inl z2))] : va_W) ++ (gJ kJ 8 65 tar z1 ++ ([] : va_W))) H := hP
  have hD : va_D A (([(rd, .inr (4, [.ref tw, .int (nI bn), .long ld, .int vh, .int (nI lc), .int (nI cc), .ref q0, .ref q1, .ref q2, .ref q3, .ref q4, .ref q5, .ref q6, .ref q7])), (q0, .inl (kI, 63, .inl (bsI cs))), (q1, .inl (kJ, 64, .inr (.inl kg))), (q2, .inl (kI, 64, .inl re)), (q3, .inl (kI, 64, .inl ro)), (q4, .inl (kZ, 64, .inl ba)), (q5, .inl (kJ, 64, .inr (.inl co))), (q6, .inl (kI, 384, .inl od)), (q7, .inl (kI, 6, .inl rw)), (h0, .inr (2, [.ref ta0, .long 1, .int (nI (2 + bn)), .int (nI 2), .ref ta1, .ref ta2])), (ta0, .inl (kI, 63, .inl voc)), (ta1, .inl (kH, 8, .inr (.inr (.inr (.inr (fun i => some (tar i))))))), (ta2, .inl (kI, 8, .inl z2))] : va_W) ++ (gJ kJ 8 65 tar z1 ++ ([] : va_W))) := hD
  have hP := va_P.part (X := [(rd, .inr (4, [.ref tw, .int (nI bn), .long ld, .int vh, .int (nI lc), .int (nI cc), .ref q0, .ref q1, .ref q2, .ref q3, .ref q4, .ref q5, .ref q6, .ref q7])), (q0, .inl (kI, 63, .inl (bsI cs))), (q1, .inl (kJ, 64, .inr (.inl kg))), (q2, .inl (kI, 64, .inl re)), (q3, .inl (kI, 64, .inl ro)), (q4, .inl (kZ, 64, .inl ba)), (q5, .inl (kJ, 64, .inr (.inl co))), (q6, .inl (kI, 384, .inl od)), (q7, .inl (kI, 6, .inl rw)), (h0, .inr (2, [.ref ta0, .long 1, .int (nI (2 + bn)), .int (nI 2), .ref ta1, .ref ta2])), (ta0, .inl (kI, 63, .inl voc)), (ta1, .inl (kH, 8, .inr (.inr (.inr (.inr (fun i => some (tar i))))))), (ta2, .inl (kI, 8, .inl z2))]) (cx := [(h0, .inr (2, [.ref ta0, .long 1, .int (nI (2 + bn)), .int (nI 2), .ref ta1, .ref ta2])), (ta0, .inl (kI, 63, .inl voc)), (ta1, .inl (kH, 8, .inr (.inr (.inr (.inr (fun i => some (tar i))))))), (ta2, .inl (kI, 8, .inl z2)), (rd, .inr (4, [.ref tw, .int (nI bn), .long ld, .int vh, .int (nI lc), .int (nI cc), .ref q0, .ref q1, .ref q2, .ref q3, .ref q4, .ref q5, .ref q6, .ref q7])), (q0, .inl (kI, 63, .inl (bsI cs))), (q1, .inl (kJ, 64, .inr (.inl kg))), (q2, .inl (kI, 64, .inl re)), (q3, .inl (kI, 64, .inl ro)), (q4, .inl (kZ, 64, .inl ba)), (q5, .inl (kJ, 64, .inr (.inl co))), (q6, .inl (kI, 384, .inl od)), (q7, .inl (kI, 6, .inl rw))]) (pl := (gJ kJ 8 65 tar z1 ++ ([] : va_W))) hP [9, 10, 11, 12, 0, 1, 2, 3, 4, 5, 6, 7, 8] rfl
  have hD := va_D.part (X := [(rd, .inr (4, [.ref tw, .int (nI bn), .long ld, .int vh, .int (nI lc), .int (nI cc), .ref q0, .ref q1, .ref q2, .ref q3, .ref q4, .ref q5, .ref q6, .ref q7])), (q0, .inl (kI, 63, .inl (bsI cs))), (q1, .inl (kJ, 64, .inr (.inl kg))), (q2, .inl (kI, 64, .inl re)), (q3, .inl (kI, 64, .inl ro)), (q4, .inl (kZ, 64, .inl ba)), (q5, .inl (kJ, 64, .inr (.inl co))), (q6, .inl (kI, 384, .inl od)), (q7, .inl (kI, 6, .inl rw)), (h0, .inr (2, [.ref ta0, .long 1, .int (nI (2 + bn)), .int (nI 2), .ref ta1, .ref ta2])), (ta0, .inl (kI, 63, .inl voc)), (ta1, .inl (kH, 8, .inr (.inr (.inr (.inr (fun i => some (tar i))))))), (ta2, .inl (kI, 8, .inl z2))]) (cx := [(h0, .inr (2, [.ref ta0, .long 1, .int (nI (2 + bn)), .int (nI 2), .ref ta1, .ref ta2])), (ta0, .inl (kI, 63, .inl voc)), (ta1, .inl (kH, 8, .inr (.inr (.inr (.inr (fun i => some (tar i))))))), (ta2, .inl (kI, 8, .inl z2)), (rd, .inr (4, [.ref tw, .int (nI bn), .long ld, .int vh, .int (nI lc), .int (nI cc), .ref q0, .ref q1, .ref q2, .ref q3, .ref q4, .ref q5, .ref q6, .ref q7])), (q0, .inl (kI, 63, .inl (bsI cs))), (q1, .inl (kJ, 64, .inr (.inl kg))), (q2, .inl (kI, 64, .inl re)), (q3, .inl (kI, 64, .inl ro)), (q4, .inl (kZ, 64, .inl ba)), (q5, .inl (kJ, 64, .inr (.inl co))), (q6, .inl (kI, 384, .inl od)), (q7, .inl (kI, 6, .inl rw))]) (pl := (gJ kJ 8 65 tar z1 ++ ([] : va_W))) hD [9, 10, 11, 12, 0, 1, 2, 3, 4, 5, 6, 7, 8] (by decide) rfl
  have hP : va_P D rcl (([(h0, .inr (2, [.ref ta0, .long 1, .int (nI (2 + bn)), .int (nI 2), .ref ta1, .ref ta2])), (ta0, .inl (kI, 63, .inl voc)), (ta1, .inl (kH, 8, .inr (.inr (.inr (.inr (fun i => some (tar i))))))), (ta2, .inl (kI, 8, .inl z2)), (rd, .inr (4, [.ref tw, .int (nI bn), .long ld, .int vh, .int (nI lc), .int (nI cc), .ref q0, .ref q1, .ref q2, .ref q3, .ref q4, .ref q5, .ref q6, .ref q7])), (q0, .inl (kI, 63, .inl (bsI cs))), (q1, .inl (kJ, 64, .inr (.inl kg))), (q2, .inl (kI, 64, .inl re)), (q3, .inl (kI, 64, .inl ro)), (q4, .inl (kZ, 64, .inl ba)), (q5, .inl (kJ, 64, .inr (.inl co))), (q6, .inl (kI, 384, .inl od)), (q7, .inl (kI, 6, .inl rw))] : va_W) ++ (gJ kJ 8 65 tar z1 ++ ([] : va_W))) H := hP
  have hD : va_D A (([(h0, .inr (2, [.ref ta0, .long 1, .int (nI (2 + bn)), .int (nI 2), .ref ta1, .ref ta2])), (ta0, .inl (kI, 63, .inl voc)), (ta1, .inl (kH, 8, .inr (.inr (.inr (.inr (fun i => some (tar i))))))), (ta2, .inl (kI, 8, .inl z2)), (rd, .inr (4, [.ref tw, .int (nI bn), .long ld, .int vh, .int (nI lc), .int (nI cc), .ref q0, .ref q1, .ref q2, .ref q3, .ref q4, .ref q5, .ref q6, .ref q7])), (q0, .inl (kI, 63, .inl (bsI cs))), (q1, .inl (kJ, 64, .inr (.inl kg))), (q2, .inl (kI, 64, .inl re)), (q3, .inl (kI, 64, .inl ro)), (q4, .inl (kZ, 64, .inl ba)), (q5, .inl (kJ, 64, .inr (.inl co))), (q6, .inl (kI, 384, .inl od)), (q7, .inl (kI, 6, .inl rw))] : va_W) ++ (gJ kJ 8 65 tar z1 ++ ([] : va_W))) := hD
  have LP31 : ∀ (dd : Nat) (k : Nat) (w9 : Nat) (o9 : Nat → Int32) (M9 : Nat → Nat → Int64) (H : Heap) (locs : List Loc) (ls : Array Slot), cc - k < dd → (k ≤ cc) → (w9 ≤ 2 + k) → (2 ≤ w9) → (VO o9) → va_P D rcl (([(h0, .inr (2, [.ref ta0, .long 1, .int (nI (2 + bn)), .int (nI w9), .ref ta1, .ref ta2])), (ta0, .inl (kI, 63, .inl o9)), (ta1, .inl (kH, 8, .inr (.inr (.inr (.inr (fun i => some (tar i))))))), (ta2, .inl (kI, 8, .inl z2)), (rd, .inr (4, [.ref tw, .int (nI bn), .long ld, .int vh, .int (nI lc), .int (nI cc), .ref q0, .ref q1, .ref q2, .ref q3, .ref q4, .ref q5, .ref q6, .ref q7])), (q0, .inl (kI, 63, .inl (bsI cs))), (q1, .inl (kJ, 64, .inr (.inl kg))), (q2, .inl (kI, 64, .inl re)), (q3, .inl (kI, 64, .inl ro)), (q4, .inl (kZ, 64, .inl ba)), (q5, .inl (kJ, 64, .inr (.inl co))), (q6, .inl (kI, 384, .inl od)), (q7, .inl (kI, 6, .inl rw))] : va_W) ++ (gJ kJ 8 65 tar M9 ++ ([] : va_W))) H → va_D A (([(h0, .inr (2, [.ref ta0, .long 1, .int (nI (2 + bn)), .int (nI w9), .ref ta1, .ref ta2])), (ta0, .inl (kI, 63, .inl o9)), (ta1, .inl (kH, 8, .inr (.inr (.inr (.inr (fun i => some (tar i))))))), (ta2, .inl (kI, 8, .inl z2)), (rd, .inr (4, [.ref tw, .int (nI bn), .long ld, .int vh, .int (nI lc), .int (nI cc), .ref q0, .ref q1, .ref q2, .ref q3, .ref q4, .ref q5, .ref q6, .ref q7])), (q0, .inl (kI, 63, .inl (bsI cs))), (q1, .inl (kJ, 64, .inr (.inl kg))), (q2, .inl (kI, 64, .inl re)), (q3, .inl (kI, 64, .inl ro)), (q4, .inl (kZ, 64, .inl ba)), (q5, .inl (kJ, 64, .inr (.inl co))), (q6, .inl (kI, 384, .inl od)), (q7, .inl (kI, 6, .inl rw))] : va_W) ++ (gJ kJ 8 65 tar M9 ++ ([] : va_W))) → va_S A s.heap H locs → lv_has ls 6 [(0, .ref h0), (1, .ref rd), (2, .int (nI se)), (3, .int (nI k))] → W p l e (headSpec wT_lay (rmL 2 0 0)).room s m ([.ref h0, .ref rd, .int (nI se)] : List Value).toArray below meth c H locs 0 0 (MQ below (va_Qv (fun v9 : Nat × (Nat → Int32) × (Nat → Nat → Int64) × (Nat → Int32) => (2 ≤ v9.1 ∧ v9.1 ≤ 65) ∧ VO v9.2.1) (fun v9 t => va_P D rcl (([(h0, .inr (2, [.ref ta0, .long 1, .int (nI (2 + bn)), .int (nI v9.1), .ref ta1, .ref ta2])), (ta0, .inl (kI, 63, .inl v9.2.1)), (ta1, .inl (kH, 8, .inr (.inr (.inr (.inr (fun i => some (tar i))))))), (ta2, .inl (kI, 8, .inl v9.2.2.2)), (rd, .inr (4, [.ref tw, .int (nI bn), .long ld, .int vh, .int (nI lc), .int (nI cc), .ref q0, .ref q1, .ref q2, .ref q3, .ref q4, .ref q5, .ref q6, .ref q7])), (q0, .inl (kI, 63, .inl (bsI cs))), (q1, .inl (kJ, 64, .inr (.inl kg))), (q2, .inl (kI, 64, .inl re)), (q3, .inl (kI, 64, .inl ro)), (q4, .inl (kZ, 64, .inl ba)), (q5, .inl (kJ, 64, .inr (.inl co))), (q6, .inl (kI, 384, .inl od)), (q7, .inl (kI, 6, .inl rw))] : va_W) ++ (gJ kJ 8 65 tar v9.2.2.1 ++ ([] : va_W))) t.heap ∧ va_K D rcl (TY kI kJ kZ kG kH) t ∧ va_D A (([(h0, .inr (2, [.ref ta0, .long 1, .int (nI (2 + bn)), .int (nI v9.1), .ref ta1, .ref ta2])), (ta0, .inl (kI, 63, .inl v9.2.1)), (ta1, .inl (kH, 8, .inr (.inr (.inr (.inr (fun i => some (tar i))))))), (ta2, .inl (kI, 8, .inl v9.2.2.2)), (rd, .inr (4, [.ref tw, .int (nI bn), .long ld, .int vh, .int (nI lc), .int (nI cc), .ref q0, .ref q1, .ref q2, .ref q3, .ref q4, .ref q5, .ref q6, .ref q7])), (q0, .inl (kI, 63, .inl (bsI cs))), (q1, .inl (kJ, 64, .inr (.inl kg))), (q2, .inl (kI, 64, .inl re)), (q3, .inl (kI, 64, .inl ro)), (q4, .inl (kZ, 64, .inl ba)), (q5, .inl (kJ, 64, .inr (.inl co))), (q6, .inl (kI, 384, .inl od)), (q7, .inl (kI, 6, .inl rw))] : va_W) ++ (gJ kJ 8 65 tar v9.2.2.1 ++ ([] : va_W)))) A) ([.ref h0, .ref rd, .int (nI se)] : List Value).toArray s 0 0 A) (F0 m 31 ls []) := by
    intro dd
    induction dd with
    | zero =>
      intro k w9 o9 M9 H locs ls hm
      exact absurd hm (Nat.not_lt_zero _)
    | succ dd ihLP31 =>
      intro k w9 o9 M9 H locs ls hm hk hw1 hw2 hv9 hP hD hS hl
      refine lv_iload_n hx hb dT_lay_31 rfl (lv_at hl 3 rfl) ?_
      refine lv_aload_n hx hb dT_lay_32 rfl (lv_at hl 1 rfl) ?_
      refine va_get (D := D) (cl := rcl) (ci := 4) (v := .int (nI cc)) (C := NR) (T := TR) (N := 14) hx hb hts (fun w h => gw_t w (uwR w h)) hown hK hP 4 rfl rfl 5 (by decide) (hts _ (gw_t _ hw173)) (fun _ h9 => h9) rfl dT_lay_33 ?_
      refine lv_icmp_ge (tgt := 107) hx hb dT_lay_36 (by decide) (fun c36 => ?_) (fun c36 => ?_)
      · have c36 : cc ≤ k := (nI_leI (a := cc) (b := k) (by omega) (by omega)).mp c36
        refine W.widen (k := 0) (n := 0) (by omega) (by omega) ?_
        exact W.vret hx hb hr (fun t ht9 hW9 => ⟨⟨(w9, o9, M9, z2), rfl, ⟨⟨hw2, by omega⟩, hv9⟩, by rw [ht9]; exact hP, va_K.moved hW9.alike hK, hD⟩, hS.F ht9⟩) hS.2.2 dT_lay_107
      · have c36 : ¬ cc ≤ k := mt (nI_leI (a := cc) (b := k) (by omega) (by omega)).mpr c36
        refine lv_aload_n hx hb dT_lay_39 rfl (lv_at hl 1 rfl) ?_
        refine va_get (D := D) (cl := rcl) (ci := 4) (v := .ref q0) (C := NR) (T := TR) (N := 14) hx hb hts (fun w h => gw_t w (uwR w h)) hown hK hP 4 rfl rfl 6 (by decide) (hts _ (gw_t _ hw177)) (fun _ h9 => h9) rfl dT_lay_40 ?_
        refine lv_iload_n hx hb dT_lay_43 rfl (lv_at hl 3 rfl) ?_
        have hc6 := hcs k (by omega)
        refine ra_i (k := k) hx hb hK hP 5 0 rfl rfl (by omega) (by omega) dT_lay_44 ?_
        refine lc_i (y := nI (cs k)) (rfl) ?_
        refine lv_istore (lv' := [(4, .int (nI (cs k))), (0, .ref h0), (1, .ref rd), (2, .int (nI se)), (3, .int (nI k))]) hx hb dT_lay_45 hl (by decide) rfl (fun ls hl => ?_)
        refine lv_aload_n hx hb dT_lay_47 rfl (lv_at hl 2 rfl) ?_
        refine va_get (D := D) (cl := rcl) (ci := 4) (v := .ref q4) (C := NR) (T := TR) (N := 14) hx hb hts (fun w h => gw_t w (uwR w h)) hown hK hP 4 rfl rfl 10 (by decide) (hts _ (gw_t _ hw184)) (fun _ h9 => h9) rfl dT_lay_48 ?_
        refine lv_iload hx hb dT_lay_51 (lv_at hl 0 rfl) ?_
        refine ra_z (k := cs k) hx hb hK hP 9 2 rfl rfl (by omega) (by omega) dT_lay_53 ?_
        refine lv_if_ne (tgt := 70) hx hb dT_lay_54 (by decide) (fun c54 => ?_) (fun c54 => ?_)
        · refine lv_iconst (v := 0) hx hb dT_lay_70 (by decide) ?_
          refine lv_istore (lv' := [(5, .int 0), (4, .int (nI (cs k))), (0, .ref h0), (1, .ref rd), (2, .int (nI se)), (3, .int (nI k))]) hx hb dT_lay_71 hl (by decide) rfl (fun ls hl => ?_)
          refine lv_aload_n hx hb dT_lay_73 rfl (lv_at hl 2 rfl) ?_
          refine va_get (D := D) (cl := rcl) (ci := 2) (v := .ref ta0) (C := NT) (T := TT) (N := 6) hx hb hts (fun w h => gw_t w (uwT w h)) hown hK hP 0 rfl rfl 0 (by decide) (hts _ (gw_t _ hw113)) (fun _ h9 => h9) rfl dT_lay_74 ?_
          refine lv_iload_n hx hb dT_lay_77 rfl (lv_at hl 5 rfl) ?_
          refine lv_iload hx hb dT_lay_78 (lv_at hl 0 rfl) ?_
          refine lv_if_eq (tgt := 99) hx hb dT_lay_80 (by decide) (fun c80 => ?_) (fun c80 => ?_)
          · refine lv_iconst (v := -1) hx hb dT_lay_99 (by decide) ?_
            refine wa_i (k := k) hx hb hK hP hD hS 1 0 rfl rfl (by omega) (by omega) dT_lay_100 (fun H locs hP hD hS => ?_)
            rw [setX (X := [(h0, .inr (2, [.ref ta0, .long 1, .int (nI (2 + bn)), .int (nI w9), .ref ta1, .ref ta2])), (ta0, .inl (kI, 63, .inl o9)), (ta1, .inl (kH, 8, .inr (.inr (.inr (.inr (fun i => some (tar i))))))), (ta2, .inl (kI, 8, .inl z2)), (rd, .inr (4, [.ref tw, .int (nI bn), .long ld, .int vh, .int (nI lc), .int (nI cc), .ref q0, .ref q1, .ref q2, .ref q3, .ref q4, .ref q5, .ref q6, .ref q7])), (q0, .inl (kI, 63, .inl (bsI cs))), (q1, .inl (kJ, 64, .inr (.inl kg))), (q2, .inl (kI, 64, .inl re)), (q3, .inl (kI, 64, .inl ro)), (q4, .inl (kZ, 64, .inl ba)), (q5, .inl (kJ, 64, .inr (.inl co))), (q6, .inl (kI, 384, .inl od)), (q7, .inl (kI, 6, .inl rw))]) (k := 1) (Nat.le_of_ble_eq_true rfl)] at hP hD
            have hP : va_P D rcl (([(h0, .inr (2, [.ref ta0, .long 1, .int (nI (2 + bn)), .int (nI w9), .ref ta1, .ref ta2])), (ta0, .inl (kI, 63, .inl (upd o9 k (-1)))), (ta1, .inl (kH, 8, .inr (.inr (.inr (.inr (fun i => some (tar i))))))), (ta2, .inl (kI, 8, .inl z2)), (rd, .inr (4, [.ref tw, .int (nI bn), .long ld, .int vh, .int (nI lc), .int (nI cc), .ref q0, .ref q1, .ref q2, .ref q3, .ref q4, .ref q5, .ref q6, .ref q7])), (q0, .inl (kI, 63, .inl (bsI cs))), (q1, .inl (kJ, 64, .inr (.inl kg))), (q2, .inl (kI, 64, .inl re)), (q3, .inl (kI, 64, .inl ro)), (q4, .inl (kZ, 64, .inl ba)), (q5, .inl (kJ, 64, .inr (.inl co))), (q6, .inl (kI, 384, .inl od)), (q7, .inl (kI, 6, .inl rw))] : va_W) ++ (gJ kJ 8 65 tar M9 ++ ([] : va_W))) H := hP
            have hD : va_D A (([(h0, .inr (2, [.ref ta0, .long 1, .int (nI (2 + bn)), .int (nI w9), .ref ta1, .ref ta2])), (ta0, .inl (kI, 63, .inl (upd o9 k (-1)))), (ta1, .inl (kH, 8, .inr (.inr (.inr (.inr (fun i => some (tar i))))))), (ta2, .inl (kI, 8, .inl z2)), (rd, .inr (4, [.ref tw, .int (nI bn), .long ld, .int vh, .int (nI lc), .int (nI cc), .ref q0, .ref q1, .ref q2, .ref q3, .ref q4, .ref q5, .ref q6, .ref q7])), (q0, .inl (kI, 63, .inl (bsI cs))), (q1, .inl (kJ, 64, .inr (.inl kg))), (q2, .inl (kI, 64, .inl re)), (q3, .inl (kI, 64, .inl ro)), (q4, .inl (kZ, 64, .inl ba)), (q5, .inl (kJ, 64, .inr (.inl co))), (q6, .inl (kI, 384, .inl od)), (q7, .inl (kI, 6, .inl rw))] : va_W) ++ (gJ kJ 8 65 tar M9 ++ ([] : va_W))) := hD
            refine lv_iinc (v := nI (k + 1)) (lv' := [(3, .int (nI (k + 1))), (5, .int 0), (4, .int (nI (cs k))), (0, .ref h0), (1, .ref rd), (2, .int (nI se))]) hx hb dT_lay_101 hl (k := 5) rfl (nI_add k 1) (by decide) rfl (fun ls hl => ?_)
            refine lv_goto (tgt := 31) hx hb dT_lay_104 (by decide) ?_
            exact ihLP31 (k + 1) w9 (upd o9 k (-1)) M9 _ _ ls (by omega) (by omega) (by omega) (by omega) (vo_up hv9 (Or.inl rfl)) hP hD hS (lv_sub hl [3, 4, 5, 0] rfl)
          · exact absurd rfl c80
        · refine lv_iload hx hb dT_lay_57 (lv_at hl 0 rfl) ?_
          refine lv_iload_n hx hb dT_lay_59 rfl (lv_at hl 3 rfl) ?_
          refine lv_iconst (v := -1) hx hb dT_lay_60 (by decide) ?_
          refine lv_ixor hx hb dT_lay_61 ?_
          refine lv_topi (fun v2 ev2 => ?_)
          refine lv_iand hx hb dT_lay_62 ?_
          refine lv_topi (fun v3 ev3 => ?_)
          refine lv_if_ne (tgt := 70) hx hb dT_lay_63 (by decide) (fun c63 => ?_) (fun c63 => ?_)
          · refine lv_iconst (v := 0) hx hb dT_lay_70 (by decide) ?_
            refine lv_istore (lv' := [(5, .int 0), (4, .int (nI (cs k))), (0, .ref h0), (1, .ref rd), (2, .int (nI se)), (3, .int (nI k))]) hx hb dT_lay_71 hl (by decide) rfl (fun ls hl => ?_)
            refine lv_aload_n hx hb dT_lay_73 rfl (lv_at hl 2 rfl) ?_
            refine va_get (D := D) (cl := rcl) (ci := 2) (v := .ref ta0) (C := NT) (T := TT) (N := 6) hx hb hts (fun w h => gw_t w (uwT w h)) hown hK hP 0 rfl rfl 0 (by decide) (hts _ (gw_t _ hw113)) (fun _ h9 => h9) rfl dT_lay_74 ?_
            refine lv_iload_n hx hb dT_lay_77 rfl (lv_at hl 5 rfl) ?_
            refine lv_iload hx hb dT_lay_78 (lv_at hl 0 rfl) ?_
            refine lv_if_eq (tgt := 99) hx hb dT_lay_80 (by decide) (fun c80 => ?_) (fun c80 => ?_)
            · refine lv_iconst (v := -1) hx hb dT_lay_99 (by decide) ?_
              refine wa_i (k := k) hx hb hK hP hD hS 1 0 rfl rfl (by omega) (by omega) dT_lay_100 (fun H locs hP hD hS => ?_)
              rw [setX (X := [(h0, .inr (2, [.ref ta0, .long 1, .int (nI (2 + bn)), .int (nI w9), .ref ta1, .ref ta2])), (ta0, .inl (kI, 63, .inl o9)), (ta1, .inl (kH, 8, .inr (.inr (.inr (.inr (fun i => some (tar i))))))), (ta2, .inl (kI, 8, .inl z2)), (rd, .inr (4, [.ref tw, .int (nI bn), .long ld, .int vh, .int (nI lc), .int (nI cc), .ref q0, .ref q1, .ref q2, .ref q3, .ref q4, .ref q5, .ref q6, .ref q7])), (q0, .inl (kI, 63, .inl (bsI cs))), (q1, .inl (kJ, 64, .inr (.inl kg))), (q2, .inl (kI, 64, .inl re)), (q3, .inl (kI, 64, .inl ro)), (q4, .inl (kZ, 64, .inl ba)), (q5, .inl (kJ, 64, .inr (.inl co))), (q6, .inl (kI, 384, .inl od)), (q7, .inl (kI, 6, .inl rw))]) (k := 1) (Nat.le_of_ble_eq_true rfl)] at hP hD
              have hP : va_P D rcl (([(h0, .inr (2, [.ref ta0, .long 1, .int (nI (2 + bn)), .int (nI w9), .ref ta1, .ref ta2])), (ta0, .inl (kI, 63, .inl (upd o9 k (-1)))), (ta1, .inl (kH, 8, .inr (.inr (.inr (.inr (fun i => some (tar i))))))), (ta2, .inl (kI, 8, .inl z2)), (rd, .inr (4, [.ref tw, .int (nI bn), .long ld, .int vh, .int (nI lc), .int (nI cc), .ref q0, .ref q1, .ref q2, .ref q3, .ref q4, .ref q5, .ref q6, .ref q7])), (q0, .inl (kI, 63, .inl (bsI cs))), (q1, .inl (kJ, 64, .inr (.inl kg))), (q2, .inl (kI, 64, .inl re)), (q3, .inl (kI, 64, .inl ro)), (q4, .inl (kZ, 64, .inl ba)), (q5, .inl (kJ, 64, .inr (.inl co))), (q6, .inl (kI, 384, .inl od)), (q7, .inl (kI, 6, .inl rw))] : va_W) ++ (gJ kJ 8 65 tar M9 ++ ([] : va_W))) H := hP
              have hD : va_D A (([(h0, .inr (2, [.ref ta0, .long 1, .int (nI (2 + bn)), .int (nI w9), .ref ta1, .ref ta2])), (ta0, .inl (kI, 63, .inl (upd o9 k (-1)))), (ta1, .inl (kH, 8, .inr (.inr (.inr (.inr (fun i => some (tar i))))))), (ta2, .inl (kI, 8, .inl z2)), (rd, .inr (4, [.ref tw, .int (nI bn), .long ld, .int vh, .int (nI lc), .int (nI cc), .ref q0, .ref q1, .ref q2, .ref q3, .ref q4, .ref q5, .ref q6, .ref q7])), (q0, .inl (kI, 63, .inl (bsI cs))), (q1, .inl (kJ, 64, .inr (.inl kg))), (q2, .inl (kI, 64, .inl re)), (q3, .inl (kI, 64, .inl ro)), (q4, .inl (kZ, 64, .inl ba)), (q5, .inl (kJ, 64, .inr (.inl co))), (q6, .inl (kI, 384, .inl od)), (q7, .inl (kI, 6, .inl rw))] : va_W) ++ (gJ kJ 8 65 tar M9 ++ ([] : va_W))) := hD
              refine lv_iinc (v := nI (k + 1)) (lv' := [(3, .int (nI (k + 1))), (5, .int 0), (4, .int (nI (cs k))), (0, .ref h0), (1, .ref rd), (2, .int (nI se))]) hx hb dT_lay_101 hl (k := 5) rfl (nI_add k 1) (by decide) rfl (fun ls hl => ?_)
              refine lv_goto (tgt := 31) hx hb dT_lay_104 (by decide) ?_
              exact ihLP31 (k + 1) w9 (upd o9 k (-1)) M9 _ _ ls (by omega) (by omega) (by omega) (by omega) (vo_up hv9 (Or.inl rfl)) hP hD hS (lv_sub hl [3, 4, 5, 0] rfl)
            · exact absurd rfl c80
          · refine lv_iconst (v := 1) hx hb dT_lay_66 (by decide) ?_
            refine lv_goto (tgt := 71) hx hb dT_lay_67 (by decide) ?_
            refine lv_istore (lv' := [(5, .int 1), (4, .int (nI (cs k))), (0, .ref h0), (1, .ref rd), (2, .int (nI se)), (3, .int (nI k))]) hx hb dT_lay_71 hl (by decide) rfl (fun ls hl => ?_)
            refine lv_aload_n hx hb dT_lay_73 rfl (lv_at hl 2 rfl) ?_
            refine va_get (D := D) (cl := rcl) (ci := 2) (v := .ref ta0) (C := NT) (T := TT) (N := 6) hx hb hts (fun w h => gw_t w (uwT w h)) hown hK hP 0 rfl rfl 0 (by decide) (hts _ (gw_t _ hw113)) (fun _ h9 => h9) rfl dT_lay_74 ?_
            refine lv_iload_n hx hb dT_lay_77 rfl (lv_at hl 5 rfl) ?_
            refine lv_iload hx hb dT_lay_78 (lv_at hl 0 rfl) ?_
            refine lv_if_eq (tgt := 99) hx hb dT_lay_80 (by decide) (fun c80 => ?_) (fun c80 => ?_)
            · exact absurd c80 (by decide)
            · refine lv_aload_n hx hb dT_lay_83 rfl (lv_at hl 2 rfl) ?_
              refine lv_iload hx hb dT_lay_84 (lv_at hl 1 rfl) ?_
              refine lv_aload_n hx hb dT_lay_86 rfl (lv_at hl 3 rfl) ?_
              refine va_get (D := D) (cl := rcl) (ci := 4) (v := .ref q5) (C := NR) (T := TR) (N := 14) hx hb hts (fun w h => gw_t w (uwR w h)) hown hK hP 4 rfl rfl 11 (by decide) (hts _ (gw_t _ hw186)) (fun _ h9 => h9) rfl dT_lay_87 ?_
              refine lv_iload hx hb dT_lay_90 (lv_at hl 1 rfl) ?_
              refine ra_l (k := cs k) hx hb hK hP 10 1 rfl rfl (by omega) (by omega) dT_lay_92 ?_
              have hPc := va_P.part (X := [(h0, .inr (2, [.ref ta0, .long 1, .int (nI (2 + bn)), .int (nI w9), .ref ta1, .ref ta2])), (ta0, .inl (kI, 63, .inl o9)), (ta1, .inl (kH, 8, .inr (.inr (.inr (.inr (fun i => some (tar i))))))), (ta2, .inl (kI, 8, .inl z2)), (rd, .inr (4, [.ref tw, .int (nI bn), .long ld, .int vh, .int (nI lc), .int (nI cc), .ref q0, .ref q1, .ref q2, .ref q3, .ref q4, .ref q5, .ref q6, .ref q7])), (q0, .inl (kI, 63, .inl (bsI cs))), (q1, .inl (kJ, 64, .inr (.inl kg))), (q2, .inl (kI, 64, .inl re)), (q3, .inl (kI, 64, .inl ro)), (q4, .inl (kZ, 64, .inl ba)), (q5, .inl (kJ, 64, .inr (.inl co))), (q6, .inl (kI, 384, .inl od)), (q7, .inl (kI, 6, .inl rw))]) (cx := [(h0, .inr (2, [.ref ta0, .long 1, .int (nI (2 + bn)), .int (nI w9), .ref ta1, .ref ta2])), (ta0, .inl (kI, 63, .inl o9)), (ta1, .inl (kH, 8, .inr (.inr (.inr (.inr (fun i => some (tar i))))))), (ta2, .inl (kI, 8, .inl z2))]) (pl := (gJ kJ 8 65 tar M9 ++ ([] : va_W))) hP [0, 1, 2, 3] rfl
              have hDc := va_D.part (X := [(h0, .inr (2, [.ref ta0, .long 1, .int (nI (2 + bn)), .int (nI w9), .ref ta1, .ref ta2])), (ta0, .inl (kI, 63, .inl o9)), (ta1, .inl (kH, 8, .inr (.inr (.inr (.inr (fun i => some (tar i))))))), (ta2, .inl (kI, 8, .inl z2)), (rd, .inr (4, [.ref tw, .int (nI bn), .long ld, .int vh, .int (nI lc), .int (nI cc), .ref q0, .ref q1, .ref q2, .ref q3, .ref q4, .ref q5, .ref q6, .ref q7])), (q0, .inl (kI, 63, .inl (bsI cs))), (q1, .inl (kJ, 64, .inr (.inl kg))), (q2, .inl (kI, 64, .inl re)), (q3, .inl (kI, 64, .inl ro)), (q4, .inl (kZ, 64, .inl ba)), (q5, .inl (kJ, 64, .inr (.inl co))), (q6, .inl (kI, 384, .inl od)), (q7, .inl (kI, 6, .inl rw))]) (cx := [(h0, .inr (2, [.ref ta0, .long 1, .int (nI (2 + bn)), .int (nI w9), .ref ta1, .ref ta2])), (ta0, .inl (kI, 63, .inl o9)), (ta1, .inl (kH, 8, .inr (.inr (.inr (.inr (fun i => some (tar i))))))), (ta2, .inl (kI, 8, .inl z2))]) (pl := (gJ kJ 8 65 tar M9 ++ ([] : va_W))) hD [0, 1, 2, 3] (by decide) rfl
              have hFc := va_freeP (X := [(h0, .inr (2, [.ref ta0, .long 1, .int (nI (2 + bn)), .int (nI w9), .ref ta1, .ref ta2])), (ta0, .inl (kI, 63, .inl o9)), (ta1, .inl (kH, 8, .inr (.inr (.inr (.inr (fun i => some (tar i))))))), (ta2, .inl (kI, 8, .inl z2)), (rd, .inr (4, [.ref tw, .int (nI bn), .long ld, .int vh, .int (nI lc), .int (nI cc), .ref q0, .ref q1, .ref q2, .ref q3, .ref q4, .ref q5, .ref q6, .ref q7])), (q0, .inl (kI, 63, .inl (bsI cs))), (q1, .inl (kJ, 64, .inr (.inl kg))), (q2, .inl (kI, 64, .inl re)), (q3, .inl (kI, 64, .inl ro)), (q4, .inl (kZ, 64, .inl ba)), (q5, .inl (kJ, 64, .inr (.inl co))), (q6, .inl (kI, 384, .inl od)), (q7, .inl (kI, 6, .inl rw))]) (cx := [(h0, .inr (2, [.ref ta0, .long 1, .int (nI (2 + bn)), .int (nI w9), .ref ta1, .ref ta2])), (ta0, .inl (kI, 63, .inl o9)), (ta1, .inl (kH, 8, .inr (.inr (.inr (.inr (fun i => some (tar i))))))), (ta2, .inl (kI, 8, .inl z2))]) (pl := (gJ kJ 8 65 tar M9 ++ ([] : va_W))) hD hS hA [0, 1, 2, 3] rfl
              refine va_calli (va_runV (C := NT) (As := [.int (nI (cs k)), .long (co (cs k))]) (rest := [.int (nI k), .ref ta0]) ⟨hx, hb, hml, hown, hts⟩ (cT_addRound l D kI kJ kZ kG kH h0 ta0 ta1 ta2 tar 1 (2 + bn) w9 o9 M9 z2 (cs k) (co (cs k)) (by omega) (by omega) hc6 H.size) ⟨cB 2 hts hw345 hw6 hw342 (by decide +kernel) ⟨Nat.le_of_ble_eq_true rfl, Nat.le_of_ble_eq_true rfl⟩ rfl rfl, hts _ (gw_t _ hw344), hts _ (gw_t _ hs2)⟩ ⟨fun a U g mk q => ⟨q.1, q.2.1, q.2.2.1.calling g mk a, q.2.2.2⟩, va_recv hK hPc (ci := 2) (q0 := 0) rfl rfl, fun U hU hW => ⟨rfl, by rw [hU], wd.use hPc hK hN hU hW, hDc.weaken (fun _ _ _ _ => trivial)⟩⟩ rfl rfl hl.1 rfl (lv_room (Nat.le_of_ble_eq_true rfl)) dT_lay_93 ⟨Nat.le_of_ble_eq_true rfl, Nat.le_of_ble_eq_true rfl⟩) hS (fun q _ h => hFc q h) hFc (fun r93 u9 t9 H1 locs ht9 hvm9 hr93 hB9 hz9 hk9 hS => ?_)
              obtain ⟨y1, hy1⟩ : ∃ z, z = u9 := ⟨_, rfl⟩
              subst hy1
              obtain ⟨hP1, -, hD1⟩ := hB9
              rw [ht9] at hP1
              obtain ⟨hP, hD⟩ := va_joinP (X := [(h0, .inr (2, [.ref ta0, .long 1, .int (nI (2 + bn)), .int (nI w9), .ref ta1, .ref ta2])), (ta0, .inl (kI, 63, .inl o9)), (ta1, .inl (kH, 8, .inr (.inr (.inr (.inr (fun i => some (tar i))))))), (ta2, .inl (kI, 8, .inl z2)), (rd, .inr (4, [.ref tw, .int (nI bn), .long ld, .int vh, .int (nI lc), .int (nI cc), .ref q0, .ref q1, .ref q2, .ref q3, .ref q4, .ref q5, .ref q6, .ref q7])), (q0, .inl (kI, 63, .inl (bsI cs))), (q1, .inl (kJ, 64, .inr (.inl kg))), (q2, .inl (kI, 64, .inl re)), (q3, .inl (kI, 64, .inl ro)), (q4, .inl (kZ, 64, .inl ba)), (q5, .inl (kJ, 64, .inr (.inl co))), (q6, .inl (kI, 384, .inl od)), (q7, .inl (kI, 6, .inl rw))]) (cx := [(h0, .inr (2, [.ref ta0, .long 1, .int (nI (2 + bn)), .int (nI w9), .ref ta1, .ref ta2])), (ta0, .inl (kI, 63, .inl o9)), (ta1, .inl (kH, 8, .inr (.inr (.inr (.inr (fun i => some (tar i))))))), (ta2, .inl (kI, 8, .inl z2))]) (wr := [(rd, .inr (4, [.ref tw, .int (nI bn), .long ld, .int vh, .int (nI lc), .int (nI cc), .ref q0, .ref q1, .ref q2, .ref q3, .ref q4, .ref q5, .ref q6, .ref q7])), (q0, .inl (kI, 63, .inl (bsI cs))), (q1, .inl (kJ, 64, .inr (.inl kg))), (q2, .inl (kI, 64, .inl re)), (q3, .inl (kI, 64, .inl ro)), (q4, .inl (kZ, 64, .inl ba)), (q5, .inl (kJ, 64, .inr (.inl co))), (q6, .inl (kI, 384, .inl od)), (q7, .inl (kI, 6, .inl rw))]) (rx := [(h0, .inr (2, [.ref ta0, .long 1, .int (nI (2 + bn)), .int (nI (w9 + 1)), .ref ta1, .ref ta2])), (ta0, .inl (kI, 63, .inl o9)), (ta1, .inl (kH, 8, .inr (.inr (.inr (.inr (fun i => some (tar i))))))), (ta2, .inl (kI, 8, .inl z2))]) (pl := (gJ kJ 8 65 tar M9 ++ ([] : va_W))) (pl1 := (gJ kJ 8 65 tar y1 ++ ([] : va_W))) hP hD [0, 1, 2, 3] [4, 5, 6, 7, 8, 9, 10, 11, 12] rfl rfl (by decide) (by decide) hk9 hFc hP1 hD1
              generalize H1 = H at hP hS ⊢
              have hP : va_P D rcl (([(rd, .inr (4, [.ref tw, .int (nI bn), .long ld, .int vh, .int (nI lc), .int (nI cc), .ref q0, .ref q1, .ref q2, .ref q3, .ref q4, .ref q5, .ref q6, .ref q7])), (q0, .inl (kI, 63, .inl (bsI cs))), (q1, .inl (kJ, 64, .inr (.inl kg))), (q2, .inl (kI, 64, .inl re)), (q3, .inl (kI, 64, .inl ro)), (q4, .inl (kZ, 64, .inl ba)), (q5, .inl (kJ, 64, .inr (.inl co))), (q6, .inl (kI, 384, .inl od)), (q7, .inl (kI, 6, .inl rw)), (h0, .inr (2, [.ref ta0, .long 1, .int (nI (2 + bn)), .int (nI (w9 + 1)), .ref ta1, .ref ta2])), (ta0, .inl (kI, 63, .inl o9)), (ta1, .inl (kH, 8, .inr (.inr (.inr (.inr (fun i => some (tar i))))))), (ta2, .inl (kI, 8, .inl z2))] : va_W) ++ (gJ kJ 8 65 tar y1 ++ ([] : va_W))) H := hP
              have hD : va_D A (([(rd, .inr (4, [.ref tw, .int (nI bn), .long ld, .int vh, .int (nI lc), .int (nI cc), .ref q0, .ref q1, .ref q2, .ref q3, .ref q4, .ref q5, .ref q6, .ref q7])), (q0, .inl (kI, 63, .inl (bsI cs))), (q1, .inl (kJ, 64, .inr (.inl kg))), (q2, .inl (kI, 64, .inl re)), (q3, .inl (kI, 64, .inl ro)), (q4, .inl (kZ, 64, .inl ba)), (q5, .inl (kJ, 64, .inr (.inl co))), (q6, .inl (kI, 384, .inl od)), (q7, .inl (kI, 6, .inl rw)), (h0, .inr (2, [.ref ta0, .long 1, .int (nI (2 + bn)), .int (nI (w9 + 1)), .ref ta1, .ref ta2])), (ta0, .inl (kI, 63, .inl o9)), (ta1, .inl (kH, 8, .inr (.inr (.inr (.inr (fun i => some (tar i))))))), (ta2, .inl (kI, 8, .inl z2))] : va_W) ++ (gJ kJ 8 65 tar y1 ++ ([] : va_W))) := hD
              subst hr93
              refine lv_goto (tgt := 100) hx hb dT_lay_96 (by decide) ?_
              refine wa_i (k := k) hx hb hK hP hD hS 10 0 rfl rfl (by omega) (by omega) dT_lay_100 (fun H locs hP hD hS => ?_)
              rw [setX (X := [(rd, .inr (4, [.ref tw, .int (nI bn), .long ld, .int vh, .int (nI lc), .int (nI cc), .ref q0, .ref q1, .ref q2, .ref q3, .ref q4, .ref q5, .ref q6, .ref q7])), (q0, .inl (kI, 63, .inl (bsI cs))), (q1, .inl (kJ, 64, .inr (.inl kg))), (q2, .inl (kI, 64, .inl re)), (q3, .inl (kI, 64, .inl ro)), (q4, .inl (kZ, 64, .inl ba)), (q5, .inl (kJ, 64, .inr (.inl co))), (q6, .inl (kI, 384, .inl od)), (q7, .inl (kI, 6, .inl rw)), (h0, .inr (2, [.ref ta0, .long 1, .int (nI (2 + bn)), .int (nI (w9 + 1)), .ref ta1, .ref ta2])), (ta0, .inl (kI, 63, .inl o9)), (ta1, .inl (kH, 8, .inr (.inr (.inr (.inr (fun i => some (tar i))))))), (ta2, .inl (kI, 8, .inl z2))]) (k := 10) (Nat.le_of_ble_eq_true rfl)] at hP hD
              have hP : va_P D rcl (([(rd, .inr (4, [.ref tw, .int (nI bn), .long ld, .int vh, .int (nI lc), .int (nI cc), .ref q0, .ref q1, .ref q2, .ref q3, .ref q4, .ref q5, .ref q6, .ref q7])), (q0, .inl (kI, 63, .inl (bsI cs))), (q1, .inl (kJ, 64, .inr (.inl kg))), (q2, .inl (kI, 64, .inl re)), (q3, .inl (kI, 64, .inl ro)), (q4, .inl (kZ, 64, .inl ba)), (q5, .inl (kJ, 64, .inr (.inl co))), (q6, .inl (kI, 384, .inl od)), (q7, .inl (kI, 6, .inl rw)), (h0, .inr (2, [.ref ta0, .long 1, .int (nI (2 + bn)), .int (nI (w9 + 1)), .ref ta1, .ref ta2])), (ta0, .inl (kI, 63, .inl (upd o9 k (nI w9)))), (ta1, .inl (kH, 8, .inr (.inr (.inr (.inr (fun i => some (tar i))))))), (ta2, .inl (kI, 8, .inl z2))] : va_W) ++ (gJ kJ 8 65 tar y1 ++ ([] : va_W))) H := hP
              have hD : va_D A (([(rd, .inr (4, [.ref tw, .int (nI bn), .long ld, .int vh, .int (nI lc), .int (nI cc), .ref q0, .ref q1, .ref q2, .ref q3, .ref q4, .ref q5, .ref q6, .ref q7])), (q0, .inl (kI, 63, .inl (bsI cs))), (q1, .inl (kJ, 64, .inr (.inl kg))), (q2, .inl (kI, 64, .inl re)), (q3, .inl (kI, 64, .inl ro)), (q4, .inl (kZ, 64, .inl ba)), (q5, .inl (kJ, 64, .inr (.inl co))), (q6, .inl (kI, 384, .inl od)), (q7, .inl (kI, 6, .inl rw)), (h0, .inr (2, [.ref ta0, .long 1, .int (nI (2 + bn)), .int (nI (w9 + 1)), .ref ta1, .ref ta2])), (ta0, .inl (kI, 63, .inl (upd o9 k (nI w9)))), (ta1, .inl (kH, 8, .inr (.inr (.inr (.inr (fun i => some (tar i))))))), (ta2, .inl (kI, 8, .inl z2))] : va_W) ++ (gJ kJ 8 65 tar y1 ++ ([] : va_W))) := hD
              have hP := va_P.part (X := [(rd, .inr (4, [.ref tw, .int (nI bn), .long ld, .int vh, .int (nI lc), .int (nI cc), .ref q0, .ref q1, .ref q2, .ref q3, .ref q4, .ref q5, .ref q6, .ref q7])), (q0, .inl (kI, 63, .inl (bsI cs))), (q1, .inl (kJ, 64, .inr (.inl kg))), (q2, .inl (kI, 64, .inl re)), (q3, .inl (kI, 64, .inl ro)), (q4, .inl (kZ, 64, .inl ba)), (q5, .inl (kJ, 64, .inr (.inl co))), (q6, .inl (kI, 384, .inl od)), (q7, .inl (kI, 6, .inl rw)), (h0, .inr (2, [.ref ta0, .long 1, .int (nI (2 + bn)), .int (nI (w9 + 1)), .ref ta1, .ref ta2])), (ta0, .inl (kI, 63, .inl (upd o9 k (nI w9)))), (ta1, .inl (kH, 8, .inr (.inr (.inr (.inr (fun i => some (tar i))))))), (ta2, .inl (kI, 8, .inl z2))]) (cx := [(h0, .inr (2, [.ref ta0, .long 1, .int (nI (2 + bn)), .int (nI (w9 + 1)), .ref ta1, .ref ta2])), (ta0, .inl (kI, 63, .inl (upd o9 k (nI w9)))), (ta1, .inl (kH, 8, .inr (.inr (.inr (.inr (fun i => some (tar i))))))), (ta2, .inl (kI, 8, .inl z2)), (rd, .inr (4, [.ref tw, .int (nI bn), .long ld, .int vh, .int (nI lc), .int (nI cc), .ref q0, .ref q1, .ref q2, .ref q3, .ref q4, .ref q5, .ref q6, .ref q7])), (q0, .inl (kI, 63, .inl (bsI cs))), (q1, .inl (kJ, 64, .inr (.inl kg))), (q2, .inl (kI, 64, .inl re)), (q3, .inl (kI, 64, .inl ro)), (q4, .inl (kZ, 64, .inl ba)), (q5, .inl (kJ, 64, .inr (.inl co))), (q6, .inl (kI, 384, .inl od)), (q7, .inl (kI, 6, .inl rw))]) (pl := (gJ kJ 8 65 tar y1 ++ ([] : va_W))) hP [9, 10, 11, 12, 0, 1, 2, 3, 4, 5, 6, 7, 8] rfl
              have hD := va_D.part (X := [(rd, .inr (4, [.ref tw, .int (nI bn), .long ld, .int vh, .int (nI lc), .int (nI cc), .ref q0, .ref q1, .ref q2, .ref q3, .ref q4, .ref q5, .ref q6, .ref q7])), (q0, .inl (kI, 63, .inl (bsI cs))), (q1, .inl (kJ, 64, .inr (.inl kg))), (q2, .inl (kI, 64, .inl re)), (q3, .inl (kI, 64, .inl ro)), (q4, .inl (kZ, 64, .inl ba)), (q5, .inl (kJ, 64, .inr (.inl co))), (q6, .inl (kI, 384, .inl od)), (q7, .inl (kI, 6, .inl rw)), (h0, .inr (2, [.ref ta0, .long 1, .int (nI (2 + bn)), .int (nI (w9 + 1)), .ref ta1, .ref ta2])), (ta0, .inl (kI, 63, .inl (upd o9 k (nI w9)))), (ta1, .inl (kH, 8, .inr (.inr (.inr (.inr (fun i => some (tar i))))))), (ta2, .inl (kI, 8, .inl z2))]) (cx := [(h0, .inr (2, [.ref ta0, .long 1, .int (nI (2 + bn)), .int (nI (w9 + 1)), .ref ta1, .ref ta2])), (ta0, .inl (kI, 63, .inl (upd o9 k (nI w9)))), (ta1, .inl (kH, 8, .inr (.inr (.inr (.inr (fun i => some (tar i))))))), (ta2, .inl (kI, 8, .inl z2)), (rd, .inr (4, [.ref tw, .int (nI bn), .long ld, .int vh, .int (nI lc), .int (nI cc), .ref q0, .ref q1, .ref q2, .ref q3, .ref q4, .ref q5, .ref q6, .ref q7])), (q0, .inl (kI, 63, .inl (bsI cs))), (q1, .inl (kJ, 64, .inr (.inl kg))), (q2, .inl (kI, 64, .inl re)), (q3, .inl (kI, 64, .inl ro)), (q4, .inl (kZ, 64, .inl ba)), (q5, .inl (kJ, 64, .inr (.inl co))), (q6, .inl (kI, 384, .inl od)), (q7, .inl (kI, 6, .inl rw))]) (pl := (gJ kJ 8 65 tar y1 ++ ([] : va_W))) hD [9, 10, 11, 12, 0, 1, 2, 3, 4, 5, 6, 7, 8] (by decide) rfl
              have hP : va_P D rcl (([(h0, .inr (2, [.ref ta0, .long 1, .int (nI (2 + bn)), .int (nI (w9 + 1)), .ref ta1, .ref ta2])), (ta0, .inl (kI, 63, .inl (upd o9 k (nI w9)))), (ta1, .inl (kH, 8, .inr (.inr (.inr (.inr (fun i => some (tar i))))))), (ta2, .inl (kI, 8, .inl z2)), (rd, .inr (4, [.ref tw, .int (nI bn), .long ld, .int vh, .int (nI lc), .int (nI cc), .ref q0, .ref q1, .ref q2, .ref q3, .ref q4, .ref q5, .ref q6, .ref q7])), (q0, .inl (kI, 63, .inl (bsI cs))), (q1, .inl (kJ, 64, .inr (.inl kg))), (q2, .inl (kI, 64, .inl re)), (q3, .inl (kI, 64, .inl ro)), (q4, .inl (kZ, 64, .inl ba)), (q5, .inl (kJ, 64, .inr (.inl co))), (q6, .inl (kI, 384, .inl od)), (q7, .inl (kI, 6, .inl rw))] : va_W) ++ (gJ kJ 8 65 tar y1 ++ ([] : va_W))) H := hP
              have hD : va_D A (([(h0, .inr (2, [.ref ta0, .long 1, .int (nI (2 + bn)), .int (nI (w9 + 1)), .ref ta1, .ref ta2])), (ta0, .inl (kI, 63, .inl (upd o9 k (nI w9)))), (ta1, .inl (kH, 8, .inr (.inr (.inr (.inr (fun i => some (tar i))))))), (ta2, .inl (kI, 8, .inl z2)), (rd, .inr (4, [.ref tw, .int (nI bn), .long ld, .int vh, .int (nI lc), .int (nI cc), .ref q0, .ref q1, .ref q2, .ref q3, .ref q4, .ref q5, .ref q6, .ref q7])), (q0, .inl (kI, 63, .inl (bsI cs))), (q1, .inl (kJ, 64, .inr (.inl kg))), (q2, .inl (kI, 64, .inl re)), (q3, .inl (kI, 64, .inl ro)), (q4, .inl (kZ, 64, .inl ba)), (q5, .inl (kJ, 64, .inr (.inl co))), (q6, .inl (kI, 384, .inl od)), (q7, .inl (kI, 6, .inl rw))] : va_W) ++ (gJ kJ 8 65 tar y1 ++ ([] : va_W))) := hD
              refine lv_iinc (v := nI (k + 1)) (lv' := [(3, .int (nI (k + 1))), (5, .int 1), (4, .int (nI (cs k))), (0, .ref h0), (1, .ref rd), (2, .int (nI se))]) hx hb dT_lay_101 hl (k := 5) rfl (nI_add k 1) (by decide) rfl (fun ls hl => ?_)
              refine lv_goto (tgt := 31) hx hb dT_lay_104 (by decide) ?_
              exact ihLP31 (k + 1) (w9 + 1) (upd o9 k (nI w9)) y1 _ _ ls (by omega) (by omega) (by omega) (by omega) (vo_up hv9 (Or.inr ⟨w9, by omega, rfl⟩)) hP hD hS (lv_sub hl [3, 4, 5, 0] rfl)
  refine lv_iconst (v := 0) hx hb dT_lay_29 (by decide) ?_
  refine lv_istore_n (lv' := [(3, .int 0), (0, .ref h0), (1, .ref rd), (2, .int (nI se))]) hx hb dT_lay_30 rfl hl (by decide) rfl (fun ls hl => ?_)
  exact LP31 _ 0 2 voc z1 _ _ ls (Nat.lt_succ_self _) (by omega) (by omega) (by omega) hvo hP hD hS (lv_sub hl [1, 2, 3, 0] rfl)
