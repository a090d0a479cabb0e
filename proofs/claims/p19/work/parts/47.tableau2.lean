/-! the class's tableau: rowOf, favour, copy; differences of fractions -/
theorem and_nI {a : Nat} (h : a < 64) (x : Int32) : ∃ se, se < 64 ∧ nI a &&& x = nI se := by
  refine ⟨a &&& x.toBitVec.toNat, Nat.lt_of_le_of_lt Nat.and_le_left h, ?_⟩
  rw [← nn_and]
  congr 1
  apply Int32.toBitVec_inj.mp
  show x.toBitVec = BitVec.ofNat 32 x.toBitVec.toNat
  rw [BitVec.ofNat_toNat, BitVec.setWidth_eq]
def K01 (n : Nat) (f : Nat → Int32) : Prop := ∀ j, j < n → f j = 0 ∨ f j = 1
theorem k01_up {n k : Nat} {f : Nat → Int32} (h : K01 n f) : K01 n (upd f k 1) := fun j hj => by
  by_cases e : j = k
  · subst e; rw [pk_us]; exact Or.inr rfl
  · rw [pk_un e]; exact h j hj
set_option maxHeartbeats 4000000 in
set_option maxRecDepth 100000 in
theorem cT_rowOf (l : Launch) (D : va_G) (kI kJ kZ kG kH : ClassId) (h0 : Nat) (ta0 : Nat) (ta1 : Nat) (ta2 : Nat) (tar : Nat → Nat) (dn : Int64) (hh : Nat) (ww : Nat) (voc : Nat → Int32) (M : Nat → Nat → Int64) (bz : Nat → Int32) (vb : Int32) (hh8 : hh ≤ 8) (hw65 : ww ≤ 65) : Met l yT_rowOf wT_rowOf (rmL 0 0 0) (va_Pc [.ref h0, .int vb] (fun U => wd D kI kJ kZ kG kH (([(h0, .inr (2, [.ref ta0, .long dn, .int (nI hh), .int (nI ww), .ref ta1, .ref ta2])), (ta0, .inl (kI, 63, .inl voc)), (ta1, .inl (kH, 8, .inr (.inr (.inr (.inr (fun i => some (tar i))))))), (ta2, .inl (kI, 8, .inl bz))] : va_W) ++ (gJ kJ 8 65 tar M ++ ([] : va_W))) U)) (vp_Si (fun r : Int32 => ∃ o : Option Nat, r = fdI o ∧ ∀ b, o = some b → b < hh)) 0 0 (fun _ => False) := by
  refine Met.ofW (cc := bT_rowOf) (maxL := 3) (ret := (some .int)) (by decide) rfl ?_
  intro p e s m args below meth c s₁ B hml hv
  obtain ⟨rfl, hP, hK, hN⟩ := hv
  have hx := B.exec
  have hb := B.bytes
  have hr := B.returns
  have hts := atoms_spec (ws := wT_rowOf) B.pre
  have hown : s.vm.findClass NT = some m.cls := findClass_of_methodNamed B.named
  have hlocks := B.notSynchronized
  have hl := lv_entry ([.ref h0, .int vb]) (n := 3) (Nat.le_of_ble_eq_true rfl)
  rw [lg_entry_eq]
  generalize (lg_sl ([.ref h0, .int vb]) ++ List.replicate (3 - (lg_sl ([.ref h0, .int vb])).length) Slot.unset).toArray = ls at hl ⊢
  have hl : lv_has ls 3 [(0, .ref h0), (1, .int vb)] := hl
  have LP2 : ∀ (dd : Nat) (k : Nat) (ls : Array Slot), hh - k < dd → (1 ≤ k ∧ k ≤ 8) → lv_has ls 3 [(0, .ref h0), (1, .int vb), (2, .int (nI k))] → W p l e (headSpec wT_rowOf (rmL 0 0 0)).room s m ([.ref h0, .int vb] : List Value).toArray below meth c s.heap [] 0 0 (MQ below (vp_Si (fun r : Int32 => ∃ o : Option Nat, r = fdI o ∧ ∀ b, o = some b → b < hh)) ([.ref h0, .int vb] : List Value).toArray s 0 0 (fun _ => False)) (F0 m 2 ls []) := by
    intro dd
    induction dd with
    | zero =>
      intro k ls hm
      exact absurd hm (Nat.not_lt_zero _)
    | succ dd ihLP2 =>
      intro k ls hm hk hl
      refine lv_iload_n hx hb dT_rowOf_2 rfl (lv_at hl 2 rfl) ?_
      refine lv_aload_n hx hb dT_rowOf_3 rfl (lv_at hl 0 rfl) ?_
      refine va_get (D := D) (cl := rcl) (ci := 2) (v := .int (nI hh)) (C := NT) (T := TT) (N := 6) hx hb hts (fun w h => gw_t w (uwT w h)) hown hK hP 0 rfl rfl 2 (by decide) (hts _ (gw_t _ hw117)) (fun _ h9 => h9) rfl dT_rowOf_4 ?_
      refine lv_icmp_ge (tgt := 28) hx hb dT_rowOf_7 (by decide) (fun c7 => ?_) (fun c7 => ?_)
      · have c7 : hh ≤ k := (nI_leI (a := hh) (b := k) (by omega) (by omega)).mp c7
        refine lv_iconst (v := -1) hx hb dT_rowOf_28 (by decide) ?_
        exact W.iret (v := (-1)) hx hb hr (fun t ht9 hW9 => ⟨_, rfl, ⟨none, rfl, fun b h => by cases h⟩, ht9⟩) t_nil dT_rowOf_29
      · have c7 : ¬ hh ≤ k := mt (nI_leI (a := hh) (b := k) (by omega) (by omega)).mpr c7
        refine lv_aload_n hx hb dT_rowOf_10 rfl (lv_at hl 0 rfl) ?_
        refine va_get (D := D) (cl := rcl) (ci := 2) (v := .ref ta2) (C := NT) (T := TT) (N := 6) hx hb hts (fun w h => gw_t w (uwT w h)) hown hK hP 0 rfl rfl 5 (by decide) (hts _ (gw_t _ hw120)) (fun _ h9 => h9) rfl dT_rowOf_11 ?_
        refine lv_iload_n hx hb dT_rowOf_14 rfl (lv_at hl 2 rfl) ?_
        refine ra_i (k := k) hx hb hK hP 3 0 rfl rfl (by omega) (by omega) dT_rowOf_15 ?_
        refine lv_iload_n hx hb dT_rowOf_16 rfl (lv_at hl 1 rfl) ?_
        refine lv_icmp_ne (tgt := 22) hx hb dT_rowOf_17 (by decide) (fun c17 => ?_) (fun c17 => ?_)
        · refine lv_iinc (v := nI (k + 1)) (lv' := [(2, .int (nI (k + 1))), (0, .ref h0), (1, .int vb)]) hx hb dT_rowOf_22 hl (k := 2) rfl (nI_add k 1) (by decide) rfl (fun ls hl => ?_)
          refine lv_goto (tgt := 2) hx hb dT_rowOf_25 (by decide) ?_
          exact ihLP2 (k + 1) ls (by omega) (by omega) (lv_sub hl [1, 2, 0] rfl)
        · refine lv_iload_n hx hb dT_rowOf_20 rfl (lv_at hl 2 rfl) ?_
          exact W.iret (v := nI k) hx hb hr (fun t ht9 hW9 => ⟨_, rfl, ⟨some k, rfl, fun b h => by cases h; omega⟩, ht9⟩) t_nil dT_rowOf_21
  refine lv_iconst (v := 1) hx hb dT_rowOf_0 (by decide) ?_
  refine lv_istore_n (lv' := [(2, .int 1), (0, .ref h0), (1, .int vb)]) hx hb dT_rowOf_1 rfl hl (by decide) rfl (fun ls hl => ?_)
  exact LP2 _ 1 ls (Nat.lt_succ_self _) (by omega) (lv_sub hl [1, 2, 0] rfl)

set_option maxHeartbeats 4000000 in
set_option maxRecDepth 100000 in
theorem cT_amountTop (l : Launch) (D : va_G) (kI kJ kZ kG kH : ClassId) (h0 : Nat) (ta0 : Nat) (ta1 : Nat) (ta2 : Nat) (tar : Nat → Nat) (dn : Int64) (hh : Nat) (ww : Nat) (voc : Nat → Int32) (M : Nat → Nat → Int64) (bz : Nat → Int32) (vb : Int32) (hh8 : hh ≤ 8) (hw65 : ww ≤ 65) : Met l yT_amountTop wT_amountTop (rmL 1 0 0) (va_Pc [.ref h0, .int vb] (fun U => wd D kI kJ kZ kG kH (([(h0, .inr (2, [.ref ta0, .long dn, .int (nI hh), .int (nI ww), .ref ta1, .ref ta2])), (ta0, .inl (kI, 63, .inl voc)), (ta1, .inl (kH, 8, .inr (.inr (.inr (.inr (fun i => some (tar i))))))), (ta2, .inl (kI, 8, .inl bz))] : va_W) ++ (gJ kJ 8 65 tar M ++ ([] : va_W))) U)) (vp_Sl (fun r : Int64 => True)) 0 0 (fun _ => False) := by
  refine Met.ofW (cc := bT_amountTop) (maxL := 3) (ret := (some .long)) (by decide) rfl ?_
  intro p e s m args below meth c s₁ B hml hv
  obtain ⟨rfl, hP, hK, hN⟩ := hv
  have hx := B.exec
  have hb := B.bytes
  have hr := B.returns
  have hts := atoms_spec (ws := wT_amountTop) B.pre
  have hown : s.vm.findClass NT = some m.cls := findClass_of_methodNamed B.named
  have hlocks := B.notSynchronized
  have hl := lv_entry ([.ref h0, .int vb]) (n := 3) (Nat.le_of_ble_eq_true rfl)
  rw [lg_entry_eq]
  generalize (lg_sl ([.ref h0, .int vb]) ++ List.replicate (3 - (lg_sl ([.ref h0, .int vb])).length) Slot.unset).toArray = ls at hl ⊢
  have hl : lv_has ls 3 [(0, .ref h0), (1, .int vb)] := hl
  refine lv_aload_n hx hb dT_amountTop_0 rfl (lv_at hl 0 rfl) ?_
  refine lv_iload_n hx hb dT_amountTop_1 rfl (lv_at hl 1 rfl) ?_
  refine vp_callSi (W.runV (C := NT) (As := [.int vb]) (rest := []) ⟨hx, hb, hml, hown, hts⟩ (cT_rowOf l D kI kJ kZ kG kH h0 ta0 ta1 ta2 tar dn hh ww voc M bz vb hh8 hw65) ⟨cB 1 hts hw431 hw6 hw428 (by decide +kernel) ⟨Nat.le_of_ble_eq_true rfl, Nat.le_of_ble_eq_true rfl⟩ rfl rfl, hts _ (gw_t _ hw430), hts _ (gw_t _ hs9)⟩ ⟨fun a U g mk q => ⟨q.1, q.2.calling g mk a⟩, va_recv hK hP (ci := 2) (q0 := 0) rfl rfl, fun U hU hW => ⟨rfl, wd.use hP hK hN hU hW⟩⟩ rfl rfl hl.1 rfl (lv_room (Nat.le_of_ble_eq_true rfl)) dT_amountTop_2 ⟨Nat.le_of_ble_eq_true rfl, Nat.le_of_ble_eq_true rfl⟩) (fun r2 hr2 => ?_)
  obtain ⟨o5, rfl, ho5⟩ := hr2
  refine lv_istore_n (lv' := [(2, .int (fdI o5)), (0, .ref h0), (1, .int vb)]) hx hb dT_amountTop_5 rfl hl (by decide) rfl (fun ls hl => ?_)
  refine lv_iload_n hx hb dT_amountTop_6 rfl (lv_at hl 0 rfl) ?_
  refine lv_iconst (v := -1) hx hb dT_amountTop_7 (by decide) ?_
  refine lv_icmp_ne (tgt := 15) hx hb dT_amountTop_8 (by decide) (fun c8 => ?_) (fun c8 => ?_)
  · obtain ⟨f5, rfl⟩ := fd_ne c8
    have hf5 := ho5 f5 rfl
    refine lv_aload_n hx hb dT_amountTop_15 rfl (lv_at hl 1 rfl) ?_
    refine va_get (D := D) (cl := rcl) (ci := 2) (v := .ref ta1) (C := NT) (T := TT) (N := 6) hx hb hts (fun w h => gw_t w (uwT w h)) hown hK hP 0 rfl rfl 4 (by decide) (hts _ (gw_t _ hw119)) (fun _ h9 => h9) rfl dT_amountTop_16 ?_
    refine lv_iload_n hx hb dT_amountTop_19 rfl (lv_at hl 0 rfl) ?_
    refine ra_a (k := f5) (q := tar f5) hx hb hK hP 2 4 rfl rfl (by omega) (by omega) (rfl) dT_amountTop_20 ?_
    refine lv_iconst (v := 0) hx hb dT_amountTop_21 (by decide) ?_
    refine ra_l (k := 0) hx hb hK hP (4 + f5) 1 (gr_get (X := ([(h0, .inr (2, [.ref ta0, .long dn, .int (nI hh), .int (nI ww), .ref ta1, .ref ta2])), (ta0, .inl (kI, 63, .inl voc)), (ta1, .inl (kH, 8, .inr (.inr (.inr (.inr (fun i => some (tar i))))))), (ta2, .inl (kI, 8, .inl bz))] : va_W)) (by omega)) rfl (by omega) (by omega) dT_amountTop_22 ?_
    exact W.lret (v := M f5 0) hx hb hr (fun t ht9 hW9 => ⟨_, rfl, trivial, ht9⟩) t_nil dT_amountTop_23
  · refine lv_lconst (v := 0) hx hb dT_amountTop_11 (by decide) ?_
    refine lv_goto (tgt := 23) hx hb dT_amountTop_12 (by decide) ?_
    exact W.lret (v := 0) hx hb hr (fun t ht9 hW9 => ⟨_, rfl, trivial, ht9⟩) t_nil dT_amountTop_23

set_option maxHeartbeats 4000000 in
set_option maxRecDepth 100000 in
theorem cT_favour (l : Launch) (D : va_G) (kI kJ kZ kG kH : ClassId) (h0 : Nat) (ta0 : Nat) (ta1 : Nat) (ta2 : Nat) (tar : Nat → Nat) (dn : Int64) (hh : Nat) (ww : Nat) (voc : Nat → Int32) (M : Nat → Nat → Int64) (bz : Nat → Int32) (vb : Nat) (hh8 : hh ≤ 8) (hw65 : ww ≤ 65) (hvb : vb < 65) (sz : Nat) : Met l yT_favour wT_favour (rmL 1 0 0) (va_Pc [.ref h0, .int (nI vb)] (fun U => U.heap.size = sz ∧ wd D kI kJ kZ kG kH (([(h0, .inr (2, [.ref ta0, .long dn, .int (nI hh), .int (nI ww), .ref ta1, .ref ta2])), (ta0, .inl (kI, 63, .inl voc)), (ta1, .inl (kH, 8, .inr (.inr (.inr (.inr (fun i => some (tar i))))))), (ta2, .inl (kI, 8, .inl bz))] : va_W) ++ (gJ kJ 8 65 tar M ++ ([] : va_W))) U ∧ va_D (fun _ => True) (([(h0, .inr (2, [.ref ta0, .long dn, .int (nI hh), .int (nI ww), .ref ta1, .ref ta2])), (ta0, .inl (kI, 63, .inl voc)), (ta1, .inl (kH, 8, .inr (.inr (.inr (.inr (fun i => some (tar i))))))), (ta2, .inl (kI, 8, .inl bz))] : va_W) ++ (gJ kJ 8 65 tar M ++ ([] : va_W))))) (va_Qv (fun v9 : Nat → Nat → Int64 => True) (fun v9 t => va_P D rcl (([(h0, .inr (2, [.ref ta0, .long dn, .int (nI hh), .int (nI ww), .ref ta1, .ref ta2])), (ta0, .inl (kI, 63, .inl voc)), (ta1, .inl (kH, 8, .inr (.inr (.inr (.inr (fun i => some (tar i))))))), (ta2, .inl (kI, 8, .inl bz))] : va_W) ++ (gJ kJ 8 65 tar v9 ++ ([] : va_W))) t.heap ∧ va_K D rcl (TY kI kJ kZ kG kH) t ∧ va_D (va_A (([(h0, .inr (2, [.ref ta0, .long dn, .int (nI hh), .int (nI ww), .ref ta1, .ref ta2])), (ta0, .inl (kI, 63, .inl voc)), (ta1, .inl (kH, 8, .inr (.inr (.inr (.inr (fun i => some (tar i))))))), (ta2, .inl (kI, 8, .inl bz))] : va_W) ++ (gJ kJ 8 65 tar M ++ ([] : va_W))) sz) (([(h0, .inr (2, [.ref ta0, .long dn, .int (nI hh), .int (nI ww), .ref ta1, .ref ta2])), (ta0, .inl (kI, 63, .inl voc)), (ta1, .inl (kH, 8, .inr (.inr (.inr (.inr (fun i => some (tar i))))))), (ta2, .inl (kI, 8, .inl bz))] : va_W) ++ (gJ kJ 8 65 tar v9 ++ ([] : va_W)))) (va_A (([(h0, .inr (2, [.ref ta0, .long dn, .int (nI hh), .int (nI ww), .ref ta1, .ref ta2])), (ta0, .inl (kI, 63, .inl voc)), (ta1, .inl (kH, 8, .inr (.inr (.inr (.inr (fun i => some (tar i))))))), (ta2, .inl (kI, 8, .inl bz))] : va_W) ++ (gJ kJ 8 65 tar M ++ ([] : va_W))) sz)) 0 0 (va_A (([(h0, .inr (2, [.ref ta0, .long dn, .int (nI hh), .int (nI ww), .ref ta1, .ref ta2])), (ta0, .inl (kI, 63, .inl voc)), (ta1, .inl (kH, 8, .inr (.inr (.inr (.inr (fun i => some (tar i))))))), (ta2, .inl (kI, 8, .inl bz))] : va_W) ++ (gJ kJ 8 65 tar M ++ ([] : va_W))) sz) := by
  refine Met.ofW (cc := bT_favour) (maxL := 4) (ret := none) (by decide) rfl ?_
  intro p e s m args below meth c s₁ B hml hv
  obtain ⟨rfl, hsz, ⟨hP, hK, hN⟩, hD0⟩ := hv
  have hx := B.exec
  have hb := B.bytes
  have hr := B.returns
  have hts := atoms_spec (ws := wT_favour) B.pre
  have hown : s.vm.findClass NT = some m.cls := findClass_of_methodNamed B.named
  have hlocks := B.notSynchronized
  subst hsz
  have hD := hD0.self (sz := s.heap.size)
  generalize hAe : va_A (([(h0, .inr (2, [.ref ta0, .long dn, .int (nI hh), .int (nI ww), .ref ta1, .ref ta2])), (ta0, .inl (kI, 63, .inl voc)), (ta1, .inl (kH, 8, .inr (.inr (.inr (.inr (fun i => some (tar i))))))), (ta2, .inl (kI, 8, .inl bz))] : va_W) ++ (gJ kJ 8 65 tar M ++ ([] : va_W))) s.heap.size = A at hD ⊢
  have hA : ∀ q : Nat, s.heap.size ≤ q → A q := fun q h => by rw [← hAe]; exact Or.inr h
  have hS : va_S A s.heap s.heap [] := va_S.rf
  have hP : va_P D rcl (([(h0, .inr (2, [.ref ta0, .long dn, .int (nI hh), .int (nI ww), .ref ta1, .ref ta2])), (ta0, .inl (kI, 63, .inl voc)), (ta1, .inl (kH, 8, .inr (.inr (.inr (.inr (fun i => some (tar i))))))), (ta2, .inl (kI, 8, .inl bz))] : va_W) ++ (gJ kJ 8 65 tar M ++ ([] : va_W))) s.heap := hP
  have hl := lv_entry ([.ref h0, .int (nI vb)]) (n := 4) (Nat.le_of_ble_eq_true rfl)
  rw [lg_entry_eq]
  generalize (lg_sl ([.ref h0, .int (nI vb)]) ++ List.replicate (4 - (lg_sl ([.ref h0, .int (nI vb)])).length) Slot.unset).toArray = ls at hl ⊢
  have hl : lv_has ls 4 [(0, .ref h0), (1, .int (nI vb))] := hl
  refine lv_aload_n hx hb dT_favour_0 rfl (lv_at hl 0 rfl) ?_
  refine va_get (D := D) (cl := rcl) (ci := 2) (v := .ref ta1) (C := NT) (T := TT) (N := 6) hx hb hts (fun w h => gw_t w (uwT w h)) hown hK hP 0 rfl rfl 4 (by decide) (hts _ (gw_t _ hw119)) (fun _ h9 => h9) rfl dT_favour_1 ?_
  refine lv_iconst (v := 0) hx hb dT_favour_4 (by decide) ?_
  refine ra_a (k := 0) (q := tar 0) hx hb hK hP 2 4 rfl rfl (by omega) (by omega) (rfl) dT_favour_5 ?_
  refine lv_iload_n hx hb dT_favour_6 rfl (lv_at hl 1 rfl) ?_
  refine lv_dup2_11 hx hb dT_favour_7 rfl rfl ?_
  refine ra_l (k := vb) hx hb hK hP (4 + 0) 1 (gr_get (X := ([(h0, .inr (2, [.ref ta0, .long dn, .int (nI hh), .int (nI ww), .ref ta1, .ref ta2])), (ta0, .inl (kI, 63, .inl voc)), (ta1, .inl (kH, 8, .inr (.inr (.inr (.inr (fun i => some (tar i))))))), (ta2, .inl (kI, 8, .inl bz))] : va_W)) (by omega)) rfl (by omega) (by omega) dT_favour_8 ?_
  refine lv_aload_n hx hb dT_favour_9 rfl (lv_at hl 0 rfl) ?_
  refine va_get (D := D) (cl := rcl) (ci := 2) (v := .long dn) (C := NT) (T := TT) (N := 6) hx hb hts (fun w h => gw_t w (uwT w h)) hown hK hP 0 rfl rfl 1 (by decide) (hts _ (gw_t _ hw115)) (fun _ h9 => h9) rfl dT_favour_10 ?_
  refine lv_lsub hx hb dT_favour_13 ?_
  refine lv_topl (fun v1 ev1 => ?_)
  refine wa_l (k := vb) hx hb hK hP hD hS (4 + 0) 1 (gr_get (X := ([(h0, .inr (2, [.ref ta0, .long dn, .int (nI hh), .int (nI ww), .ref ta1, .ref ta2])), (ta0, .inl (kI, 63, .inl voc)), (ta1, .inl (kH, 8, .inr (.inr (.inr (.inr (fun i => some (tar i))))))), (ta2, .inl (kI, 8, .inl bz))] : va_W)) (by omega)) rfl (by omega) (by omega) dT_favour_14 (fun H locs hP hD hS => ?_)
  have eg := gJ_set (X := ([(h0, .inr (2, [.ref ta0, .long dn, .int (nI hh), .int (nI ww), .ref ta1, .ref ta2])), (ta0, .inl (kI, 63, .inl voc)), (ta1, .inl (kH, 8, .inr (.inr (.inr (.inr (fun i => some (tar i))))))), (ta2, .inl (kI, 8, .inl bz))] : va_W)) (Y := ([] : va_W)) (k := kJ) (n := 8) (w := 65) (r := tar) (M := M) (i := 0) (by omega) (vp_updL (M 0) vb v1)
  have hP := (congrArg (fun z => va_P D rcl z H) eg).mp hP
  have hD := (congrArg (fun z => va_D A z) eg).mp hD
  have hP : va_P D rcl (([(h0, .inr (2, [.ref ta0, .long dn, .int (nI hh), .int (nI ww), .ref ta1, .ref ta2])), (ta0, .inl (kI, 63, .inl voc)), (ta1, .inl (kH, 8, .inr (.inr (.inr (.inr (fun i => some (tar i))))))), (ta2, .inl (kI, 8, .inl bz))] : va_W) ++ (gJ kJ 8 65 tar (up2 M 0 (vp_updL (M 0) vb v1)) ++ ([] : va_W))) H := hP
  have hD : va_D A (([(h0, .inr (2, [.ref ta0, .long dn, .int (nI hh), .int (nI ww), .ref ta1, .ref ta2])), (ta0, .inl (kI, 63, .inl voc)), (ta1, .inl (kH, 8, .inr (.inr (.inr (.inr (fun i => some (tar i))))))), (ta2, .inl (kI, 8, .inl bz))] : va_W) ++ (gJ kJ 8 65 tar (up2 M 0 (vp_updL (M 0) vb v1)) ++ ([] : va_W))) := hD
  refine lv_aload_n hx hb dT_favour_15 rfl (lv_at hl 0 rfl) ?_
  refine lv_iload_n hx hb dT_favour_16 rfl (lv_at hl 1 rfl) ?_
  refine vp_callSi (W.runV (C := NT) (As := [.int (nI vb)]) (rest := []) ⟨hx, hb, hml, hown, hts⟩ (cT_rowOf l D kI kJ kZ kG kH h0 ta0 ta1 ta2 tar dn hh ww voc (up2 M 0 (vp_updL (M 0) vb v1)) bz (nI vb) hh8 hw65) ⟨cB 1 hts hw431 hw6 hw428 (by decide +kernel) ⟨Nat.le_of_ble_eq_true rfl, Nat.le_of_ble_eq_true rfl⟩ rfl rfl, hts _ (gw_t _ hw430), hts _ (gw_t _ hs9)⟩ ⟨fun a U g mk q => ⟨q.1, q.2.calling g mk a⟩, va_recv hK hP (ci := 2) (q0 := 0) rfl rfl, fun U hU hW => ⟨rfl, wd.use hP hK hN hU hW⟩⟩ rfl rfl hl.1 rfl (lv_room (Nat.le_of_ble_eq_true rfl)) dT_favour_17 ⟨Nat.le_of_ble_eq_true rfl, Nat.le_of_ble_eq_true rfl⟩) (fun r17 hr17 => ?_)
  obtain ⟨o5, rfl, ho5⟩ := hr17
  refine lv_istore_n (lv' := [(2, .int (fdI o5)), (0, .ref h0), (1, .int (nI vb))]) hx hb dT_favour_20 rfl hl (by decide) rfl (fun ls hl => ?_)
  refine lv_iload_n hx hb dT_favour_21 rfl (lv_at hl 0 rfl) ?_
  refine lv_iconst (v := -1) hx hb dT_favour_22 (by decide) ?_
  refine lv_icmp_eq (tgt := 61) hx hb dT_favour_23 (by decide) (fun c23 => ?_) (fun c23 => ?_)
  · refine W.widen (k := 0) (n := 0) (by omega) (by omega) ?_
    exact W.vret hx hb hr (fun t ht9 hW9 => ⟨⟨up2 M 0 (vp_updL (M 0) vb v1), rfl, trivial, by rw [ht9]; exact hP, va_K.moved hW9.alike hK, hD⟩, hS.F ht9⟩) hS.2.2 dT_favour_61
  · obtain ⟨f5, rfl⟩ := fd_ne c23
    have hf5 := ho5 f5 rfl
    have LP28 : ∀ (dd : Nat) (k : Nat) (M9 : Nat → Nat → Int64) (H : Heap) (locs : List Loc) (ls : Array Slot), ww - k < dd → (k ≤ 65) → va_P D rcl (([(h0, .inr (2, [.ref ta0, .long dn, .int (nI hh), .int (nI ww), .ref ta1, .ref ta2])), (ta0, .inl (kI, 63, .inl voc)), (ta1, .inl (kH, 8, .inr (.inr (.inr (.inr (fun i => some (tar i))))))), (ta2, .inl (kI, 8, .inl bz))] : va_W) ++ (gJ kJ 8 65 tar M9 ++ ([] : va_W))) H → va_D A (([(h0, .inr (2, [.ref ta0, .long dn, .int (nI hh), .int (nI ww), .ref ta1, .ref ta2])), (ta0, .inl (kI, 63, .inl voc)), (ta1, .inl (kH, 8, .inr (.inr (.inr (.inr (fun i => some (tar i))))))), (ta2, .inl (kI, 8, .inl bz))] : va_W) ++ (gJ kJ 8 65 tar M9 ++ ([] : va_W))) → va_S A s.heap H locs → lv_has ls 4 [(0, .ref h0), (1, .int (nI vb)), (2, .int (nI f5)), (3, .int (nI k))] → W p l e (headSpec wT_favour (rmL 1 0 0)).room s m ([.ref h0, .int (nI vb)] : List Value).toArray below meth c H locs 0 0 (MQ below (va_Qv (fun v9 : Nat → Nat → Int64 => True) (fun v9 t => va_P D rcl (([(h0, .inr (2, [.ref ta0, .long dn, .int (nI hh), .int (nI ww), .ref ta1, .ref ta2])), (ta0, .inl (kI, 63, .inl voc)), (ta1, .inl (kH, 8, .inr (.inr (.inr (.inr (fun i => some (tar i))))))), (ta2, .inl (kI, 8, .inl bz))] : va_W) ++ (gJ kJ 8 65 tar v9 ++ ([] : va_W))) t.heap ∧ va_K D rcl (TY kI kJ kZ kG kH) t ∧ va_D A (([(h0, .inr (2, [.ref ta0, .long dn, .int (nI hh), .int (nI ww), .ref ta1, .ref ta2])), (ta0, .inl (kI, 63, .inl voc)), (ta1, .inl (kH, 8, .inr (.inr (.inr (.inr (fun i => some (tar i))))))), (ta2, .inl (kI, 8, .inl bz))] : va_W) ++ (gJ kJ 8 65 tar v9 ++ ([] : va_W)))) A) ([.ref h0, .int (nI vb)] : List Value).toArray s 0 0 A) (F0 m 28 ls []) := by
      intro dd
      induction dd with
      | zero =>
        intro k M9 H locs ls hm
        exact absurd hm (Nat.not_lt_zero _)
      | succ dd ihLP28 =>
        intro k M9 H locs ls hm hk hP hD hS hl
        refine lv_iload_n hx hb dT_favour_28 rfl (lv_at hl 3 rfl) ?_
        refine lv_aload_n hx hb dT_favour_29 rfl (lv_at hl 0 rfl) ?_
        refine va_get (D := D) (cl := rcl) (ci := 2) (v := .int (nI ww)) (C := NT) (T := TT) (N := 6) hx hb hts (fun w h => gw_t w (uwT w h)) hown hK hP 0 rfl rfl 3 (by decide) (hts _ (gw_t _ hw118)) (fun _ h9 => h9) rfl dT_favour_30 ?_
        refine lv_icmp_ge (tgt := 61) hx hb dT_favour_33 (by decide) (fun c33 => ?_) (fun c33 => ?_)
        · have c33 : ww ≤ k := (nI_leI (a := ww) (b := k) (by omega) (by omega)).mp c33
          refine W.widen (k := 0) (n := 0) (by omega) (by omega) ?_
          exact W.vret hx hb hr (fun t ht9 hW9 => ⟨⟨M9, rfl, trivial, by rw [ht9]; exact hP, va_K.moved hW9.alike hK, hD⟩, hS.F ht9⟩) hS.2.2 dT_favour_61
        · have c33 : ¬ ww ≤ k := mt (nI_leI (a := ww) (b := k) (by omega) (by omega)).mpr c33
          refine lv_aload_n hx hb dT_favour_36 rfl (lv_at hl 0 rfl) ?_
          refine va_get (D := D) (cl := rcl) (ci := 2) (v := .ref ta1) (C := NT) (T := TT) (N := 6) hx hb hts (fun w h => gw_t w (uwT w h)) hown hK hP 0 rfl rfl 4 (by decide) (hts _ (gw_t _ hw119)) (fun _ h9 => h9) rfl dT_favour_37 ?_
          refine lv_iconst (v := 0) hx hb dT_favour_40 (by decide) ?_
          refine ra_a (k := 0) (q := tar 0) hx hb hK hP 2 4 rfl rfl (by omega) (by omega) (rfl) dT_favour_41 ?_
          refine lv_iload_n hx hb dT_favour_42 rfl (lv_at hl 3 rfl) ?_
          refine lv_dup2_11 hx hb dT_favour_43 rfl rfl ?_
          refine ra_l (k := k) hx hb hK hP (4 + 0) 1 (gr_get (X := ([(h0, .inr (2, [.ref ta0, .long dn, .int (nI hh), .int (nI ww), .ref ta1, .ref ta2])), (ta0, .inl (kI, 63, .inl voc)), (ta1, .inl (kH, 8, .inr (.inr (.inr (.inr (fun i => some (tar i))))))), (ta2, .inl (kI, 8, .inl bz))] : va_W)) (by omega)) rfl (by omega) (by omega) dT_favour_44 ?_
          refine lv_aload_n hx hb dT_favour_45 rfl (lv_at hl 0 rfl) ?_
          refine va_get (D := D) (cl := rcl) (ci := 2) (v := .ref ta1) (C := NT) (T := TT) (N := 6) hx hb hts (fun w h => gw_t w (uwT w h)) hown hK hP 0 rfl rfl 4 (by decide) (hts _ (gw_t _ hw119)) (fun _ h9 => h9) rfl dT_favour_46 ?_
          refine lv_iload_n hx hb dT_favour_49 rfl (lv_at hl 2 rfl) ?_
          refine ra_a (k := f5) (q := tar f5) hx hb hK hP 2 4 rfl rfl (by omega) (by omega) (rfl) dT_favour_50 ?_
          refine lv_iload_n hx hb dT_favour_51 rfl (lv_at hl 3 rfl) ?_
          refine ra_l (k := k) hx hb hK hP (4 + f5) 1 (gr_get (X := ([(h0, .inr (2, [.ref ta0, .long dn, .int (nI hh), .int (nI ww), .ref ta1, .ref ta2])), (ta0, .inl (kI, 63, .inl voc)), (ta1, .inl (kH, 8, .inr (.inr (.inr (.inr (fun i => some (tar i))))))), (ta2, .inl (kI, 8, .inl bz))] : va_W)) (by omega)) rfl (by omega) (by omega) dT_favour_52 ?_
          refine lv_ladd hx hb dT_favour_53 ?_
          refine lv_topl (fun v2 ev2 => ?_)
          refine wa_l (k := k) hx hb hK hP hD hS (4 + 0) 1 (gr_get (X := ([(h0, .inr (2, [.ref ta0, .long dn, .int (nI hh), .int (nI ww), .ref ta1, .ref ta2])), (ta0, .inl (kI, 63, .inl voc)), (ta1, .inl (kH, 8, .inr (.inr (.inr (.inr (fun i => some (tar i))))))), (ta2, .inl (kI, 8, .inl bz))] : va_W)) (by omega)) rfl (by omega) (by omega) dT_favour_54 (fun H locs hP hD hS => ?_)
          have eg := gJ_set (X := ([(h0, .inr (2, [.ref ta0, .long dn, .int (nI hh), .int (nI ww), .ref ta1, .ref ta2])), (ta0, .inl (kI, 63, .inl voc)), (ta1, .inl (kH, 8, .inr (.inr (.inr (.inr (fun i => some (tar i))))))), (ta2, .inl (kI, 8, .inl bz))] : va_W)) (Y := ([] : va_W)) (k := kJ) (n := 8) (w := 65) (r := tar) (M := M9) (i := 0) (by omega) (vp_updL (M9 0) k v2)
          have hP := (congrArg (fun z => va_P D rcl z H) eg).mp hP
          have hD := (congrArg (fun z => va_D A z) eg).mp hD
          have hP : va_P D rcl (([(h0, .inr (2, [.ref ta0, .long dn, .int (nI hh), .int (nI ww), .ref ta1, .ref ta2])), (ta0, .inl (kI, 63, .inl voc)), (ta1, .inl (kH, 8, .inr (.inr (.inr (.inr (fun i => some (tar i))))))), (ta2, .inl (kI, 8, .inl bz))] : va_W) ++ (gJ kJ 8 65 tar (up2 M9 0 (vp_updL (M9 0) k v2)) ++ ([] : va_W))) H := hP
          have hD : va_D A (([(h0, .inr (2, [.ref ta0, .long dn, .int (nI hh), .int (nI ww), .ref ta1, .ref ta2])), (ta0, .inl (kI, 63, .inl voc)), (ta1, .inl (kH, 8, .inr (.inr (.inr (.inr (fun i => some (tar i))))))), (ta2, .inl (kI, 8, .inl bz))] : va_W) ++ (gJ kJ 8 65 tar (up2 M9 0 (vp_updL (M9 0) k v2)) ++ ([] : va_W))) := hD
          refine lv_iinc (v := nI (k + 1)) (lv' := [(3, .int (nI (k + 1))), (0, .ref h0), (1, .int (nI vb)), (2, .int (nI f5))]) hx hb dT_favour_55 hl (k := 3) rfl (nI_add k 1) (by decide) rfl (fun ls hl => ?_)
          refine lv_goto (tgt := 28) hx hb dT_favour_58 (by decide) ?_
          exact ihLP28 (k + 1) (up2 M9 0 (vp_updL (M9 0) k v2)) _ _ ls (by omega) (by omega) hP hD hS (lv_sub hl [1, 2, 3, 0] rfl)
    refine lv_iconst (v := 0) hx hb dT_favour_26 (by decide) ?_
    refine lv_istore_n (lv' := [(3, .int 0), (2, .int (nI f5)), (0, .ref h0), (1, .int (nI vb))]) hx hb dT_favour_27 rfl hl (by decide) rfl (fun ls hl => ?_)
    exact LP28 _ 0 (up2 M 0 (vp_updL (M 0) vb v1)) _ _ ls (Nat.lt_succ_self _) (by omega) hP hD hS (lv_sub hl [2, 3, 1, 0] rfl)

set_option maxHeartbeats 4000000 in
set_option maxRecDepth 100000 in
theorem cT_copy (l : Launch) (D : va_G) (kI kJ kZ kG kH : ClassId) (h0 : Nat) (ta0 : Nat) (ta1 : Nat) (ta2 : Nat) (tar : Nat → Nat) (dn : Int64) (hh : Nat) (ww : Nat) (voc : Nat → Int32) (M : Nat → Nat → Int64) (bz : Nat → Int32) (g0 : Nat) (w0 : Nat) (w1 : Nat) (w2 : Nat) (wr : Nat → Nat) (dn2 : Int64) (hh2 : Nat) (ww2 : Nat) (vo2 : Nat → Int32) (M2 : Nat → Nat → Int64) (bz2 : Nat → Int32) (hh8 : hh2 ≤ 8) (hw65 : ww2 ≤ 65) (sz : Nat) : Met l yT_copy wT_copy (rmL 0 0 0) (va_Pc [.ref h0, .ref g0] (fun U => U.heap.size = sz ∧ wd D kI kJ kZ kG kH (([(h0, .inr (2, [.ref ta0, .long dn, .int (nI hh), .int (nI ww), .ref ta1, .ref ta2])), (ta0, .inl (kI, 63, .inl voc)), (ta1, .inl (kH, 8, .inr (.inr (.inr (.inr (fun i => some (tar i))))))), (ta2, .inl (kI, 8, .inl bz)), (g0, .inr (2, [.ref w0, .long dn2, .int (nI hh2), .int (nI ww2), .ref w1, .ref w2])), (w0, .inl (kI, 63, .inl vo2)), (w1, .inl (kH, 8, .inr (.inr (.inr (.inr (fun i => some (wr i))))))), (w2, .inl (kI, 8, .inl bz2))] : va_W) ++ (gJ kJ 8 65 tar M ++ (gJ kJ 8 65 wr M2 ++ ([] : va_W)))) U ∧ va_D (fun _ => True) (([(h0, .inr (2, [.ref ta0, .long dn, .int (nI hh), .int (nI ww), .ref ta1, .ref ta2])), (ta0, .inl (kI, 63, .inl voc)), (ta1, .inl (kH, 8, .inr (.inr (.inr (.inr (fun i => some (tar i))))))), (ta2, .inl (kI, 8, .inl bz)), (g0, .inr (2, [.ref w0, .long dn2, .int (nI hh2), .int (nI ww2), .ref w1, .ref w2])), (w0, .inl (kI, 63, .inl vo2)), (w1, .inl (kH, 8, .inr (.inr (.inr (.inr (fun i => some (wr i))))))), (w2, .inl (kI, 8, .inl bz2))] : va_W) ++ (gJ kJ 8 65 tar M ++ (gJ kJ 8 65 wr M2 ++ ([] : va_W)))))) (va_Qv (fun v9 : (Nat → Nat → Int64) × (Nat → Int32) => True) (fun v9 t => va_P D rcl (([(h0, .inr (2, [.ref ta0, .long dn2, .int (nI hh2), .int (nI ww2), .ref ta1, .ref ta2])), (ta0, .inl (kI, 63, .inl voc)), (ta1, .inl (kH, 8, .inr (.inr (.inr (.inr (fun i => some (tar i))))))), (ta2, .inl (kI, 8, .inl v9.2)), (g0, .inr (2, [.ref w0, .long dn2, .int (nI hh2), .int (nI ww2), .ref w1, .ref w2])), (w0, .inl (kI, 63, .inl vo2)), (w1, .inl (kH, 8, .inr (.inr (.inr (.inr (fun i => some (wr i))))))), (w2, .inl (kI, 8, .inl bz2))] : va_W) ++ (gJ kJ 8 65 tar v9.1 ++ (gJ kJ 8 65 wr M2 ++ ([] : va_W)))) t.heap ∧ va_K D rcl (TY kI kJ kZ kG kH) t ∧ va_D (va_A (([(h0, .inr (2, [.ref ta0, .long dn, .int (nI hh), .int (nI ww), .ref ta1, .ref ta2])), (ta0, .inl (kI, 63, .inl voc)), (ta1, .inl (kH, 8, .inr (.inr (.inr (.inr (fun i => some (tar i))))))), (ta2, .inl (kI, 8, .inl bz)), (g0, .inr (2, [.ref w0, .long dn2, .int (nI hh2), .int (nI ww2), .ref w1, .ref w2])), (w0, .inl (kI, 63, .inl vo2)), (w1, .inl (kH, 8, .inr (.inr (.inr (.inr (fun i => some (wr i))))))), (w2, .inl (kI, 8, .inl bz2))] : va_W) ++ (gJ kJ 8 65 tar M ++ (gJ kJ 8 65 wr M2 ++ ([] : va_W)))) sz) (([(h0, .inr (2, [.ref ta0, .long dn2, .int (nI hh2), .int (nI ww2), .ref ta1, .ref ta2])), (ta0, .inl (kI, 63, .inl voc)), (ta1, .inl (kH, 8, .inr (.inr (.inr (.inr (fun i => some (tar i))))))), (ta2, .inl (kI, 8, .inl v9.2)), (g0, .inr (2, [.ref w0, .long dn2, .int (nI hh2), .int (nI ww2), .ref w1, .ref w2])), (w0, .inl (kI, 63, .inl vo2)), (w1, .inl (kH, 8, .inr (.inr (.inr (.inr (fun i => some (wr i))))))), (w2, .inl (kI, 8, .inl bz2))] : va_W) ++ (gJ kJ 8 65 tar v9.1 ++ (gJ kJ 8 65 wr M2 ++ ([] : va_W))))) (va_A (([(h0, .inr (2, [.ref ta0, .long dn, .int (nI hh), .int (nI ww), .ref ta1, .ref ta2])), (ta0, .inl (kI, 63, .inl voc)), (ta1, .inl (kH, 8, .inr (.inr (.inr (.inr (fun i => some (tar i))))))), (ta2, .inl (kI, 8, .inl bz)), (g0, .inr (2, [.ref w0, .long dn2, .int (nI hh2), .int (nI ww2), .ref w1, .ref w2])), (w0, .inl (kI, 63, .inl vo2)), (w1, .inl (kH, 8, .inr (.inr (.inr (.inr (fun i => some (wr i))))))), (w2, .inl (kI, 8, .inl bz2))] : va_W) ++ (gJ kJ 8 65 tar M ++ (gJ kJ 8 65 wr M2 ++ ([] : va_W)))) sz)) 0 0 (va_A (([(h0, .inr (2, [.ref ta0, .long dn, .int (nI hh), .int (nI ww), .ref ta1, .ref ta2])), (ta0, .inl (kI, 63, .inl voc)), (ta1, .inl (kH, 8, .inr (.inr (.inr (.inr (fun i => some (tar i))))))), (ta2, .inl (kI, 8, .inl bz)), (g0, .inr (2, [.ref w0, .long dn2, .int (nI hh2), .int (nI ww2), .ref w1, .ref w2])), (w0, .inl (kI, 63, .inl vo2)), (w1, .inl (kH, 8, .inr (.inr (.inr (.inr (fun i => some (wr i))))))), (w2, .inl (kI, 8, .inl bz2))] : va_W) ++ (gJ kJ 8 65 tar M ++ (gJ kJ 8 65 wr M2 ++ ([] : va_W)))) sz) := by
  refine Met.ofW (cc := bT_copy) (maxL := 3) (ret := none) (by decide) rfl ?_
  intro p e s m args below meth c s₁ B hml hv
  obtain ⟨rfl, hsz, ⟨hP, hK, hN⟩, hD0⟩ := hv
  have hx := B.exec
  have hb := B.bytes
  have hr := B.returns
  have hts := atoms_spec (ws := wT_copy) B.pre
  have hown : s.vm.findClass NT = some m.cls := findClass_of_methodNamed B.named
  have hlocks := B.notSynchronized
  subst hsz
  have hD := hD0.self (sz := s.heap.size)
  generalize hAe : va_A (([(h0, .inr (2, [.ref ta0, .long dn, .int (nI hh), .int (nI ww), .ref ta1, .ref ta2])), (ta0, .inl (kI, 63, .inl voc)), (ta1, .inl (kH, 8, .inr (.inr (.inr (.inr (fun i => some (tar i))))))), (ta2, .inl (kI, 8, .inl bz)), (g0, .inr (2, [.ref w0, .long dn2, .int (nI hh2), .int (nI ww2), .ref w1, .ref w2])), (w0, .inl (kI, 63, .inl vo2)), (w1, .inl (kH, 8, .inr (.inr (.inr (.inr (fun i => some (wr i))))))), (w2, .inl (kI, 8, .inl bz2))] : va_W) ++ (gJ kJ 8 65 tar M ++ (gJ kJ 8 65 wr M2 ++ ([] : va_W)))) s.heap.size = A at hD ⊢
  have hA : ∀ q : Nat, s.heap.size ≤ q → A q := fun q h => by rw [← hAe]; exact Or.inr h
  have hS : va_S A s.heap s.heap [] := va_S.rf
  have hP : va_P D rcl (([(h0, .inr (2, [.ref ta0, .long dn, .int (nI hh), .int (nI ww), .ref ta1, .ref ta2])), (ta0, .inl (kI, 63, .inl voc)), (ta1, .inl (kH, 8, .inr (.inr (.inr (.inr (fun i => some (tar i))))))), (ta2, .inl (kI, 8, .inl bz)), (g0, .inr (2, [.ref w0, .long dn2, .int (nI hh2), .int (nI ww2), .ref w1, .ref w2])), (w0, .inl (kI, 63, .inl vo2)), (w1, .inl (kH, 8, .inr (.inr (.inr (.inr (fun i => some (wr i))))))), (w2, .inl (kI, 8, .inl bz2))] : va_W) ++ (gJ kJ 8 65 tar M ++ (gJ kJ 8 65 wr M2 ++ ([] : va_W)))) s.heap := hP
  have hl := lv_entry ([.ref h0, .ref g0]) (n := 3) (Nat.le_of_ble_eq_true rfl)
  rw [lg_entry_eq]
  generalize (lg_sl ([.ref h0, .ref g0]) ++ List.replicate (3 - (lg_sl ([.ref h0, .ref g0])).length) Slot.unset).toArray = ls at hl ⊢
  have hl : lv_has ls 3 [(0, .ref h0), (1, .ref g0)] := hl
  refine lv_aload_n hx hb dT_copy_0 rfl (lv_at hl 0 rfl) ?_
  refine lv_aload_n hx hb dT_copy_1 rfl (lv_at hl 1 rfl) ?_
  refine va_get (D := D) (cl := rcl) (ci := 2) (v := .int (nI hh2)) (C := NT) (T := TT) (N := 6) hx hb hts (fun w h => gw_t w (uwT w h)) hown hK hP 4 rfl rfl 2 (by decide) (hts _ (gw_t _ hw117)) (fun _ h9 => h9) rfl dT_copy_2 ?_
  refine va_put (D := D) (cl := rcl) (ci := 2) (v := .int (nI hh2)) (ty := .int) (C := NT) (T := TT) (N := 6) hx hb hts (fun w h => gw_t w (uwT w h)) tyT tyT_ok nmT hown hK hP hD hS 0 rfl rfl 2 (by decide) (hts _ (gw_t _ hw117)) (fun _ h9 => h9) rfl (by decide +kernel) (rfl) (rfl) (Nat.le_of_ble_eq_true rfl) dT_copy_5 (fun H locs hP hD hS => ?_)
  rw [setX (X := [(h0, .inr (2, [.ref ta0, .long dn, .int (nI hh), .int (nI ww), .ref ta1, .ref ta2])), (ta0, .inl (kI, 63, .inl voc)), (ta1, .inl (kH, 8, .inr (.inr (.inr (.inr (fun i => some (tar i))))))), (ta2, .inl (kI, 8, .inl bz)), (g0, .inr (2, [.ref w0, .long dn2, .int (nI hh2), .int (nI ww2), .ref w1, .ref w2])), (w0, .inl (kI, 63, .inl vo2)), (w1, .inl (kH, 8, .inr (.inr (.inr (.inr (fun i => some (wr i))))))), (w2, .inl (kI, 8, .inl bz2))]) (k := 0) (Nat.le_of_ble_eq_true rfl)] at hP hD
  have hP : va_P D rcl (([(h0, .inr (2, [.ref ta0, .long dn, .int (nI hh2), .int (nI ww), .ref ta1, .ref ta2])), (ta0, .inl (kI, 63, .inl voc)), (ta1, .inl (kH, 8, .inr (.inr (.inr (.inr (fun i => some (tar i))))))), (ta2, .inl (kI, 8, .inl bz)), (g0, .inr (2, [.ref w0, .long dn2, .int (nI hh2), .int (nI ww2), .ref w1, .ref w2])), (w0, .inl (kI, 63, .inl vo2)), (w1, .inl (kH, 8, .inr (.inr (.inr (.inr (fun i => some (wr i))))))), (w2, .inl (kI, 8, .inl bz2))] : va_W) ++ (gJ kJ 8 65 tar M ++ (gJ kJ 8 65 wr M2 ++ ([] : va_W)))) H := hP
  have hD : va_D A (([(h0, .inr (2, [.ref ta0, .long dn, .int (nI hh2), .int (nI ww), .ref ta1, .ref ta2])), (ta0, .inl (kI, 63, .inl voc)), (ta1, .inl (kH, 8, .inr (.inr (.inr (.inr (fun i => some (tar i))))))), (ta2, .inl (kI, 8, .inl bz)), (g0, .inr (2, [.ref w0, .long dn2, .int (nI hh2), .int (nI ww2), .ref w1, .ref w2])), (w0, .inl (kI, 63, .inl vo2)), (w1, .inl (kH, 8, .inr (.inr (.inr (.inr (fun i => some (wr i))))))), (w2, .inl (kI, 8, .inl bz2))] : va_W) ++ (gJ kJ 8 65 tar M ++ (gJ kJ 8 65 wr M2 ++ ([] : va_W)))) := hD
  refine lv_aload_n hx hb dT_copy_8 rfl (lv_at hl 0 rfl) ?_
  refine lv_aload_n hx hb dT_copy_9 rfl (lv_at hl 1 rfl) ?_
  refine va_get (D := D) (cl := rcl) (ci := 2) (v := .int (nI ww2)) (C := NT) (T := TT) (N := 6) hx hb hts (fun w h => gw_t w (uwT w h)) hown hK hP 4 rfl rfl 3 (by decide) (hts _ (gw_t _ hw118)) (fun _ h9 => h9) rfl dT_copy_10 ?_
  refine va_put (D := D) (cl := rcl) (ci := 2) (v := .int (nI ww2)) (ty := .int) (C := NT) (T := TT) (N := 6) hx hb hts (fun w h => gw_t w (uwT w h)) tyT tyT_ok nmT hown hK hP hD hS 0 rfl rfl 3 (by decide) (hts _ (gw_t _ hw118)) (fun _ h9 => h9) rfl (by decide +kernel) (rfl) (rfl) (Nat.le_of_ble_eq_true rfl) dT_copy_13 (fun H locs hP hD hS => ?_)
  rw [setX (X := [(h0, .inr (2, [.ref ta0, .long dn, .int (nI hh2), .int (nI ww), .ref ta1, .ref ta2])), (ta0, .inl (kI, 63, .inl voc)), (ta1, .inl (kH, 8, .inr (.inr (.inr (.inr (fun i => some (tar i))))))), (ta2, .inl (kI, 8, .inl bz)), (g0, .inr (2, [.ref w0, .long dn2, .int (nI hh2), .int (nI ww2), .ref w1, .ref w2])), (w0, .inl (kI, 63, .inl vo2)), (w1, .inl (kH, 8, .inr (.inr (.inr (.inr (fun i => some (wr i))))))), (w2, .inl (kI, 8, .inl bz2))]) (k := 0) (Nat.le_of_ble_eq_true rfl)] at hP hD
  have hP : va_P D rcl (([(h0, .inr (2, [.ref ta0, .long dn, .int (nI hh2), .int (nI ww2), .ref ta1, .ref ta2])), (ta0, .inl (kI, 63, .inl voc)), (ta1, .inl (kH, 8, .inr (.inr (.inr (.inr (fun i => some (tar i))))))), (ta2, .inl (kI, 8, .inl bz)), (g0, .inr (2, [.ref w0, .long dn2, .int (nI hh2), .int (nI ww2), .ref w1, .ref w2])), (w0, .inl (kI, 63, .inl vo2)), (w1, .inl (kH, 8, .inr (.inr (.inr (.inr (fun i => some (wr i))))))), (w2, .inl (kI, 8, .inl bz2))] : va_W) ++ (gJ kJ 8 65 tar M ++ (gJ kJ 8 65 wr M2 ++ ([] : va_W)))) H := hP
  have hD : va_D A (([(h0, .inr (2, [.ref ta0, .long dn, .int (nI hh2), .int (nI ww2), .ref ta1, .ref ta2])), (ta0, .inl (kI, 63, .inl voc)), (ta1, .inl (kH, 8, .inr (.inr (.inr (.inr (fun i => some (tar i))))))), (ta2, .inl (kI, 8, .inl bz)), (g0, .inr (2, [.ref w0, .long dn2, .int (nI hh2), .int (nI ww2), .ref w1, .ref w2])), (w0, .inl (kI, 63, .inl vo2)), (w1, .inl (kH, 8, .inr (.inr (.inr (.inr (fun i => some (wr i))))))), (w2, .inl (kI, 8, .inl bz2))] : va_W) ++ (gJ kJ 8 65 tar M ++ (gJ kJ 8 65 wr M2 ++ ([] : va_W)))) := hD
  refine lv_aload_n hx hb dT_copy_16 rfl (lv_at hl 0 rfl) ?_
  refine lv_aload_n hx hb dT_copy_17 rfl (lv_at hl 1 rfl) ?_
  refine va_get (D := D) (cl := rcl) (ci := 2) (v := .long dn2) (C := NT) (T := TT) (N := 6) hx hb hts (fun w h => gw_t w (uwT w h)) hown hK hP 4 rfl rfl 1 (by decide) (hts _ (gw_t _ hw115)) (fun _ h9 => h9) rfl dT_copy_18 ?_
  refine va_put (D := D) (cl := rcl) (ci := 2) (v := .long dn2) (ty := .long) (C := NT) (T := TT) (N := 6) hx hb hts (fun w h => gw_t w (uwT w h)) tyT tyT_ok nmT hown hK hP hD hS 0 rfl rfl 1 (by decide) (hts _ (gw_t _ hw115)) (fun _ h9 => h9) rfl (by decide +kernel) (rfl) (rfl) (Nat.le_of_ble_eq_true rfl) dT_copy_21 (fun H locs hP hD hS => ?_)
  rw [setX (X := [(h0, .inr (2, [.ref ta0, .long dn, .int (nI hh2), .int (nI ww2), .ref ta1, .ref ta2])), (ta0, .inl (kI, 63, .inl voc)), (ta1, .inl (kH, 8, .inr (.inr (.inr (.inr (fun i => some (tar i))))))), (ta2, .inl (kI, 8, .inl bz)), (g0, .inr (2, [.ref w0, .long dn2, .int (nI hh2), .int (nI ww2), .ref w1, .ref w2])), (w0, .inl (kI, 63, .inl vo2)), (w1, .inl (kH, 8, .inr (.inr (.inr (.inr (fun i => some (wr i))))))), (w2, .inl (kI, 8, .inl bz2))]) (k := 0) (Nat.le_of_ble_eq_true rfl)] at hP hD
  have hP : va_P D rcl (([(h0, .inr (2, [.ref ta0, .long dn2, .int (nI hh2), .int (nI ww2), .ref ta1, .ref ta2])), (ta0, .inl (kI, 63, .inl voc)), (ta1, .inl (kH, 8, .inr (.inr (.inr (.inr (fun i => some (tar i))))))), (ta2, .inl (kI, 8, .inl bz)), (g0, .inr (2, [.ref w0, .long dn2, .int (nI hh2), .int (nI ww2), .ref w1, .ref w2])), (w0, .inl (kI, 63, .inl vo2)), (w1, .inl (kH, 8, .inr (.inr (.inr (.inr (fun i => some (wr i))))))), (w2, .inl (kI, 8, .inl bz2))] : va_W) ++ (gJ kJ 8 65 tar M ++ (gJ kJ 8 65 wr M2 ++ ([] : va_W)))) H := hP
  have hD : va_D A (([(h0, .inr (2, [.ref ta0, .long dn2, .int (nI hh2), .int (nI ww2), .ref ta1, .ref ta2])), (ta0, .inl (kI, 63, .inl voc)), (ta1, .inl (kH, 8, .inr (.inr (.inr (.inr (fun i => some (tar i))))))), (ta2, .inl (kI, 8, .inl bz)), (g0, .inr (2, [.ref w0, .long dn2, .int (nI hh2), .int (nI ww2), .ref w1, .ref w2])), (w0, .inl (kI, 63, .inl vo2)), (w1, .inl (kH, 8, .inr (.inr (.inr (.inr (fun i => some (wr i))))))), (w2, .inl (kI, 8, .inl bz2))] : va_W) ++ (gJ kJ 8 65 tar M ++ (gJ kJ 8 65 wr M2 ++ ([] : va_W)))) := hD
  have LP26 : ∀ (dd : Nat) (k : Nat) (M9 : Nat → Nat → Int64) (H : Heap) (locs : List Loc) (ls : Array Slot), hh2 - k < dd → (k ≤ 8) → va_P D rcl (([(h0, .inr (2, [.ref ta0, .long dn2, .int (nI hh2), .int (nI ww2), .ref ta1, .ref ta2])), (ta0, .inl (kI, 63, .inl voc)), (ta1, .inl (kH, 8, .inr (.inr (.inr (.inr (fun i => some (tar i))))))), (ta2, .inl (kI, 8, .inl bz)), (g0, .inr (2, [.ref w0, .long dn2, .int (nI hh2), .int (nI ww2), .ref w1, .ref w2])), (w0, .inl (kI, 63, .inl vo2)), (w1, .inl (kH, 8, .inr (.inr (.inr (.inr (fun i => some (wr i))))))), (w2, .inl (kI, 8, .inl bz2))] : va_W) ++ (gJ kJ 8 65 tar M9 ++ (gJ kJ 8 65 wr M2 ++ ([] : va_W)))) H → va_D A (([(h0, .inr (2, [.ref ta0, .long dn2, .int (nI hh2), .int (nI ww2), .ref ta1, .ref ta2])), (ta0, .inl (kI, 63, .inl voc)), (ta1, .inl (kH, 8, .inr (.inr (.inr (.inr (fun i => some (tar i))))))), (ta2, .inl (kI, 8, .inl bz)), (g0, .inr (2, [.ref w0, .long dn2, .int (nI hh2), .int (nI ww2), .ref w1, .ref w2])), (w0, .inl (kI, 63, .inl vo2)), (w1, .inl (kH, 8, .inr (.inr (.inr (.inr (fun i => some (wr i))))))), (w2, .inl (kI, 8, .inl bz2))] : va_W) ++ (gJ kJ 8 65 tar M9 ++ (gJ kJ 8 65 wr M2 ++ ([] : va_W)))) → va_S A s.heap H locs → lv_has ls 3 [(0, .ref h0), (1, .ref g0), (2, .int (nI k))] → W p l e (headSpec wT_copy (rmL 0 0 0)).room s m ([.ref h0, .ref g0] : List Value).toArray below meth c H locs 0 0 (MQ below (va_Qv (fun v9 : (Nat → Nat → Int64) × (Nat → Int32) => True) (fun v9 t => va_P D rcl (([(h0, .inr (2, [.ref ta0, .long dn2, .int (nI hh2), .int (nI ww2), .ref ta1, .ref ta2])), (ta0, .inl (kI, 63, .inl voc)), (ta1, .inl (kH, 8, .inr (.inr (.inr (.inr (fun i => some (tar i))))))), (ta2, .inl (kI, 8, .inl v9.2)), (g0, .inr (2, [.ref w0, .long dn2, .int (nI hh2), .int (nI ww2), .ref w1, .ref w2])), (w0, .inl (kI, 63, .inl vo2)), (w1, .inl (kH, 8, .inr (.inr (.inr (.inr (fun i => some (wr i))))))), (w2, .inl (kI, 8, .inl bz2))] : va_W) ++ (gJ kJ 8 65 tar v9.1 ++ (gJ kJ 8 65 wr M2 ++ ([] : va_W)))) t.heap ∧ va_K D rcl (TY kI kJ kZ kG kH) t ∧ va_D A (([(h0, .inr (2, [.ref ta0, .long dn2, .int (nI hh2), .int (nI ww2), .ref ta1, .ref ta2])), (ta0, .inl (kI, 63, .inl voc)), (ta1, .inl (kH, 8, .inr (.inr (.inr (.inr (fun i => some (tar i))))))), (ta2, .inl (kI, 8, .inl v9.2)), (g0, .inr (2, [.ref w0, .long dn2, .int (nI hh2), .int (nI ww2), .ref w1, .ref w2])), (w0, .inl (kI, 63, .inl vo2)), (w1, .inl (kH, 8, .inr (.inr (.inr (.inr (fun i => some (wr i))))))), (w2, .inl (kI, 8, .inl bz2))] : va_W) ++ (gJ kJ 8 65 tar v9.1 ++ (gJ kJ 8 65 wr M2 ++ ([] : va_W))))) A) ([.ref h0, .ref g0] : List Value).toArray s 0 0 A) (F0 m 26 ls []) := by
    intro dd
    induction dd with
    | zero =>
      intro k M9 H locs ls hm
      exact absurd hm (Nat.not_lt_zero _)
    | succ dd ihLP26 =>
      intro k M9 H locs ls hm hk hP hD hS hl
      refine lv_iload_n hx hb dT_copy_26 rfl (lv_at hl 2 rfl) ?_
      refine lv_aload_n hx hb dT_copy_27 rfl (lv_at hl 0 rfl) ?_
      refine va_get (D := D) (cl := rcl) (ci := 2) (v := .int (nI hh2)) (C := NT) (T := TT) (N := 6) hx hb hts (fun w h => gw_t w (uwT w h)) hown hK hP 0 rfl rfl 2 (by decide) (hts _ (gw_t _ hw117)) (fun _ h9 => h9) rfl dT_copy_28 ?_
      refine lv_icmp_ge (tgt := 61) hx hb dT_copy_31 (by decide) (fun c31 => ?_) (fun c31 => ?_)
      · have c31 : hh2 ≤ k := (nI_leI (a := hh2) (b := k) (by omega) (by omega)).mp c31
        refine lv_aload_n hx hb dT_copy_61 rfl (lv_at hl 1 rfl) ?_
        refine va_get (D := D) (cl := rcl) (ci := 2) (v := .ref w2) (C := NT) (T := TT) (N := 6) hx hb hts (fun w h => gw_t w (uwT w h)) hown hK hP 4 rfl rfl 5 (by decide) (hts _ (gw_t _ hw120)) (fun _ h9 => h9) rfl dT_copy_62 ?_
        refine lv_iconst (v := 0) hx hb dT_copy_65 (by decide) ?_
        refine lv_aload_n hx hb dT_copy_66 rfl (lv_at hl 0 rfl) ?_
        refine va_get (D := D) (cl := rcl) (ci := 2) (v := .ref ta2) (C := NT) (T := TT) (N := 6) hx hb hts (fun w h => gw_t w (uwT w h)) hown hK hP 0 rfl rfl 5 (by decide) (hts _ (gw_t _ hw120)) (fun _ h9 => h9) rfl dT_copy_67 ?_
        refine lv_iconst (v := 0) hx hb dT_copy_70 (by decide) ?_
        refine lv_aload_n hx hb dT_copy_71 rfl (lv_at hl 0 rfl) ?_
        refine va_get (D := D) (cl := rcl) (ci := 2) (v := .int (nI hh2)) (C := NT) (T := TT) (N := 6) hx hb hts (fun w h => gw_t w (uwT w h)) hown hK hP 0 rfl rfl 2 (by decide) (hts _ (gw_t _ hw117)) (fun _ h9 => h9) rfl dT_copy_72 ?_
        refine cp_i (n := hh2) (dp := 0) (sp := 0) hx hb (by rw [hml]; exact hl.1.symm) (own := NT) hown (hts _ (gw_t _ hw421)) (hts _ (gw_t _ hw423)) (hts _ (gw_t _ hw422)) (hts _ (gw_t _ hw10)) hK hP hD hS 7 3 0 rfl rfl rfl (by omega) (by omega) (by decide) (by decide) (Nat.le_of_ble_eq_true rfl) (by decide +kernel) dT_copy_75 (fun H locs hP hD hS => ?_)
        rw [setX (X := [(h0, .inr (2, [.ref ta0, .long dn2, .int (nI hh2), .int (nI ww2), .ref ta1, .ref ta2])), (ta0, .inl (kI, 63, .inl voc)), (ta1, .inl (kH, 8, .inr (.inr (.inr (.inr (fun i => some (tar i))))))), (ta2, .inl (kI, 8, .inl bz)), (g0, .inr (2, [.ref w0, .long dn2, .int (nI hh2), .int (nI ww2), .ref w1, .ref w2])), (w0, .inl (kI, 63, .inl vo2)), (w1, .inl (kH, 8, .inr (.inr (.inr (.inr (fun i => some (wr i))))))), (w2, .inl (kI, 8, .inl bz2))]) (k := 3) (Nat.le_of_ble_eq_true rfl)] at hP hD
        have hP : va_P D rcl (([(h0, .inr (2, [.ref ta0, .long dn2, .int (nI hh2), .int (nI ww2), .ref ta1, .ref ta2])), (ta0, .inl (kI, 63, .inl voc)), (ta1, .inl (kH, 8, .inr (.inr (.inr (.inr (fun i => some (tar i))))))), (ta2, .inl (kI, 8, .inl (va_cpy bz2 bz 0 0 hh2))), (g0, .inr (2, [.ref w0, .long dn2, .int (nI hh2), .int (nI ww2), .ref w1, .ref w2])), (w0, .inl (kI, 63, .inl vo2)), (w1, .inl (kH, 8, .inr (.inr (.inr (.inr (fun i => some (wr i))))))), (w2, .inl (kI, 8, .inl bz2))] : va_W) ++ (gJ kJ 8 65 tar M9 ++ (gJ kJ 8 65 wr M2 ++ ([] : va_W)))) H := hP
        have hD : va_D A (([(h0, .inr (2, [.ref ta0, .long dn2, .int (nI hh2), .int (nI ww2), .ref ta1, .ref ta2])), (ta0, .inl (kI, 63, .inl voc)), (ta1, .inl (kH, 8, .inr (.inr (.inr (.inr (fun i => some (tar i))))))), (ta2, .inl (kI, 8, .inl (va_cpy bz2 bz 0 0 hh2))), (g0, .inr (2, [.ref w0, .long dn2, .int (nI hh2), .int (nI ww2), .ref w1, .ref w2])), (w0, .inl (kI, 63, .inl vo2)), (w1, .inl (kH, 8, .inr (.inr (.inr (.inr (fun i => some (wr i))))))), (w2, .inl (kI, 8, .inl bz2))] : va_W) ++ (gJ kJ 8 65 tar M9 ++ (gJ kJ 8 65 wr M2 ++ ([] : va_W)))) := hD
        refine W.widen (k := 0) (n := 0) (by omega) (by omega) ?_
        exact W.vret hx hb hr (fun t ht9 hW9 => ⟨⟨(M9, va_cpy bz2 bz 0 0 hh2), rfl, trivial, by rw [ht9]; exact hP, va_K.moved hW9.alike hK, hD⟩, hS.F ht9⟩) hS.2.2 dT_copy_78
      · have c31 : ¬ hh2 ≤ k := mt (nI_leI (a := hh2) (b := k) (by omega) (by omega)).mpr c31
        refine lv_aload_n hx hb dT_copy_34 rfl (lv_at hl 1 rfl) ?_
        refine va_get (D := D) (cl := rcl) (ci := 2) (v := .ref w1) (C := NT) (T := TT) (N := 6) hx hb hts (fun w h => gw_t w (uwT w h)) hown hK hP 4 rfl rfl 4 (by decide) (hts _ (gw_t _ hw119)) (fun _ h9 => h9) rfl dT_copy_35 ?_
        refine lv_iload_n hx hb dT_copy_38 rfl (lv_at hl 2 rfl) ?_
        refine ra_a (k := k) (q := wr k) hx hb hK hP 6 4 rfl rfl (by omega) (by omega) (rfl) dT_copy_39 ?_
        refine lv_iconst (v := 0) hx hb dT_copy_40 (by decide) ?_
        refine lv_aload_n hx hb dT_copy_41 rfl (lv_at hl 0 rfl) ?_
        refine va_get (D := D) (cl := rcl) (ci := 2) (v := .ref ta1) (C := NT) (T := TT) (N := 6) hx hb hts (fun w h => gw_t w (uwT w h)) hown hK hP 0 rfl rfl 4 (by decide) (hts _ (gw_t _ hw119)) (fun _ h9 => h9) rfl dT_copy_42 ?_
        refine lv_iload_n hx hb dT_copy_45 rfl (lv_at hl 2 rfl) ?_
        refine ra_a (k := k) (q := tar k) hx hb hK hP 2 4 rfl rfl (by omega) (by omega) (rfl) dT_copy_46 ?_
        refine lv_iconst (v := 0) hx hb dT_copy_47 (by decide) ?_
        refine lv_aload_n hx hb dT_copy_48 rfl (lv_at hl 0 rfl) ?_
        refine va_get (D := D) (cl := rcl) (ci := 2) (v := .int (nI ww2)) (C := NT) (T := TT) (N := 6) hx hb hts (fun w h => gw_t w (uwT w h)) hown hK hP 0 rfl rfl 3 (by decide) (hts _ (gw_t _ hw118)) (fun _ h9 => h9) rfl dT_copy_49 ?_
        refine cp_l (n := ww2) (dp := 0) (sp := 0) hx hb (by rw [hml]; exact hl.1.symm) (own := NT) hown (hts _ (gw_t _ hw421)) (hts _ (gw_t _ hw423)) (hts _ (gw_t _ hw422)) (hts _ (gw_t _ hw10)) hK hP hD hS (8 + (8 + k)) (8 + k) 1 (gr_get2 (X := ([(h0, .inr (2, [.ref ta0, .long dn2, .int (nI hh2), .int (nI ww2), .ref ta1, .ref ta2])), (ta0, .inl (kI, 63, .inl voc)), (ta1, .inl (kH, 8, .inr (.inr (.inr (.inr (fun i => some (tar i))))))), (ta2, .inl (kI, 8, .inl bz)), (g0, .inr (2, [.ref w0, .long dn2, .int (nI hh2), .int (nI ww2), .ref w1, .ref w2])), (w0, .inl (kI, 63, .inl vo2)), (w1, .inl (kH, 8, .inr (.inr (.inr (.inr (fun i => some (wr i))))))), (w2, .inl (kI, 8, .inl bz2))] : va_W)) (show k < 8 by omega)) (gr_get (X := ([(h0, .inr (2, [.ref ta0, .long dn2, .int (nI hh2), .int (nI ww2), .ref ta1, .ref ta2])), (ta0, .inl (kI, 63, .inl voc)), (ta1, .inl (kH, 8, .inr (.inr (.inr (.inr (fun i => some (tar i))))))), (ta2, .inl (kI, 8, .inl bz)), (g0, .inr (2, [.ref w0, .long dn2, .int (nI hh2), .int (nI ww2), .ref w1, .ref w2])), (w0, .inl (kI, 63, .inl vo2)), (w1, .inl (kH, 8, .inr (.inr (.inr (.inr (fun i => some (wr i))))))), (w2, .inl (kI, 8, .inl bz2))] : va_W)) (show k < 8 by omega)) rfl (by omega) (by omega) (by decide) (by decide) (Nat.le_of_ble_eq_true rfl) (by decide +kernel) dT_copy_52 (fun H locs hP hD hS => ?_)
        have eg := gJ_set (X := ([(h0, .inr (2, [.ref ta0, .long dn2, .int (nI hh2), .int (nI ww2), .ref ta1, .ref ta2])), (ta0, .inl (kI, 63, .inl voc)), (ta1, .inl (kH, 8, .inr (.inr (.inr (.inr (fun i => some (tar i))))))), (ta2, .inl (kI, 8, .inl bz)), (g0, .inr (2, [.ref w0, .long dn2, .int (nI hh2), .int (nI ww2), .ref w1, .ref w2])), (w0, .inl (kI, 63, .inl vo2)), (w1, .inl (kH, 8, .inr (.inr (.inr (.inr (fun i => some (wr i))))))), (w2, .inl (kI, 8, .inl bz2))] : va_W)) (Y := (gJ kJ 8 65 wr M2 ++ ([] : va_W))) (k := kJ) (n := 8) (w := 65) (r := tar) (M := M9) (i := k) (by omega) (va_cpy (M2 k) (M9 k) 0 0 ww2)
        have hP := (congrArg (fun z => va_P D rcl z H) eg).mp hP
        have hD := (congrArg (fun z => va_D A z) eg).mp hD
        have hP : va_P D rcl (([(h0, .inr (2, [.ref ta0, .long dn2, .int (nI hh2), .int (nI ww2), .ref ta1, .ref ta2])), (ta0, .inl (kI, 63, .inl voc)), (ta1, .inl (kH, 8, .inr (.inr (.inr (.inr (fun i => some (tar i))))))), (ta2, .inl (kI, 8, .inl bz)), (g0, .inr (2, [.ref w0, .long dn2, .int (nI hh2), .int (nI ww2), .ref w1, .ref w2])), (w0, .inl (kI, 63, .inl vo2)), (w1, .inl (kH, 8, .inr (.inr (.inr (.inr (fun i => some (wr i))))))), (w2, .inl (kI, 8, .inl bz2))] : va_W) ++ (gJ kJ 8 65 tar (up2 M9 k (va_cpy (M2 k) (M9 k) 0 0 ww2)) ++ (gJ kJ 8 65 wr M2 ++ ([] : va_W)))) H := hP
        have hD : va_D A (([(h0, .inr (2, [.ref ta0, .long dn2, .int (nI hh2), .int (nI ww2), .ref ta1, .ref ta2])), (ta0, .inl (kI, 63, .inl voc)), (ta1, .inl (kH, 8, .inr (.inr (.inr (.inr (fun i => some (tar i))))))), (ta2, .inl (kI, 8, .inl bz)), (g0, .inr (2, [.ref w0, .long dn2, .int (nI hh2), .int (nI ww2), .ref w1, .ref w2])), (w0, .inl (kI, 63, .inl vo2)), (w1, .inl (kH, 8, .inr (.inr (.inr (.inr (fun i => some (wr i))))))), (w2, .inl (kI, 8, .inl bz2))] : va_W) ++ (gJ kJ 8 65 tar (up2 M9 k (va_cpy (M2 k) (M9 k) 0 0 ww2)) ++ (gJ kJ 8 65 wr M2 ++ ([] : va_W)))) := hD
        refine lv_iinc (v := nI (k + 1)) (lv' := [(2, .int (nI (k + 1))), (0, .ref h0), (1, .ref g0)]) hx hb dT_copy_55 hl (k := 2) rfl (nI_add k 1) (by decide) rfl (fun ls hl => ?_)
        refine lv_goto (tgt := 26) hx hb dT_copy_58 (by decide) ?_
        exact ihLP26 (k + 1) (up2 M9 k (va_cpy (M2 k) (M9 k) 0 0 ww2)) _ _ ls (by omega) (by omega) hP hD hS (lv_sub hl [1, 2, 0] rfl)
  refine lv_iconst (v := 0) hx hb dT_copy_24 (by decide) ?_
  refine lv_istore_n (lv' := [(2, .int 0), (0, .ref h0), (1, .ref g0)]) hx hb dT_copy_25 rfl hl (by decide) rfl (fun ls hl => ?_)
  exact LP26 _ 0 M _ _ ls (Nat.lt_succ_self _) (by omega) hP hD hS (lv_sub hl [1, 2, 0] rfl)

set_option maxHeartbeats 4000000 in
set_option maxRecDepth 100000 in
theorem cF_putDifference (l : Launch) (D : va_G) (kI kJ kZ kG kH : ClassId) (h0 : Nat) (q0 : Nat) (q1 : Nat) (q2 : Nat) (n : Nat) (kn : Nat → Int32) (tp : Nat → Int64) (bt : Nat → Int64) (g0 : Nat) (y0 : Nat) (y1 : Nat) (y2 : Nat) (n2 : Nat) (kn2 : Nat → Int32) (tp2 : Nat → Int64) (bt2 : Nat → Int64) (i : Nat) (top : Int64) (bot : Int64) (hn : n < 2 ^ 31) (hi : i < n) (hn2 : n2 < 2 ^ 31) (hi2 : 0 < n2) (sz : Nat) : Met l yF_putDifference wF_putDifference (rmL 2 0 0) (va_Pc [.ref h0, .int (nI i), .ref g0, .long top, .long bot] (fun U => U.heap.size = sz ∧ wd D kI kJ kZ kG kH [(h0, .inr (1, [.ref q0, .ref q1, .ref q2])), (q0, .inl (kZ, n, .inl kn)), (q1, .inl (kJ, n, .inr (.inl tp))), (q2, .inl (kJ, n, .inr (.inl bt))), (g0, .inr (1, [.ref y0, .ref y1, .ref y2])), (y0, .inl (kZ, n2, .inl kn2)), (y1, .inl (kJ, n2, .inr (.inl tp2))), (y2, .inl (kJ, n2, .inr (.inl bt2)))] U ∧ va_D (fun _ => True) [(h0, .inr (1, [.ref q0, .ref q1, .ref q2])), (q0, .inl (kZ, n, .inl kn)), (q1, .inl (kJ, n, .inr (.inl tp))), (q2, .inl (kJ, n, .inr (.inl bt))), (g0, .inr (1, [.ref y0, .ref y1, .ref y2])), (y0, .inl (kZ, n2, .inl kn2)), (y1, .inl (kJ, n2, .inr (.inl tp2))), (y2, .inl (kJ, n2, .inr (.inl bt2)))])) (va_Qv (fun v9 : (Nat → Int64) × (Nat → Int64) => True) (fun v9 t => va_P D rcl [(h0, .inr (1, [.ref q0, .ref q1, .ref q2])), (q0, .inl (kZ, n, .inl (upd kn i 1))), (q1, .inl (kJ, n, .inr (.inl v9.1))), (q2, .inl (kJ, n, .inr (.inl v9.2))), (g0, .inr (1, [.ref y0, .ref y1, .ref y2])), (y0, .inl (kZ, n2, .inl kn2)), (y1, .inl (kJ, n2, .inr (.inl tp2))), (y2, .inl (kJ, n2, .inr (.inl bt2)))] t.heap ∧ va_K D rcl (TY kI kJ kZ kG kH) t ∧ va_D (va_A [(h0, .inr (1, [.ref q0, .ref q1, .ref q2])), (q0, .inl (kZ, n, .inl kn)), (q1, .inl (kJ, n, .inr (.inl tp))), (q2, .inl (kJ, n, .inr (.inl bt))), (g0, .inr (1, [.ref y0, .ref y1, .ref y2])), (y0, .inl (kZ, n2, .inl kn2)), (y1, .inl (kJ, n2, .inr (.inl tp2))), (y2, .inl (kJ, n2, .inr (.inl bt2)))] sz) [(h0, .inr (1, [.ref q0, .ref q1, .ref q2])), (q0, .inl (kZ, n, .inl (upd kn i 1))), (q1, .inl (kJ, n, .inr (.inl v9.1))), (q2, .inl (kJ, n, .inr (.inl v9.2))), (g0, .inr (1, [.ref y0, .ref y1, .ref y2])), (y0, .inl (kZ, n2, .inl kn2)), (y1, .inl (kJ, n2, .inr (.inl tp2))), (y2, .inl (kJ, n2, .inr (.inl bt2)))]) (va_A [(h0, .inr (1, [.ref q0, .ref q1, .ref q2])), (q0, .inl (kZ, n, .inl kn)), (q1, .inl (kJ, n, .inr (.inl tp))), (q2, .inl (kJ, n, .inr (.inl bt))), (g0, .inr (1, [.ref y0, .ref y1, .ref y2])), (y0, .inl (kZ, n2, .inl kn2)), (y1, .inl (kJ, n2, .inr (.inl tp2))), (y2, .inl (kJ, n2, .inr (.inl bt2)))] sz)) 0 0 (va_A [(h0, .inr (1, [.ref q0, .ref q1, .ref q2])), (q0, .inl (kZ, n, .inl kn)), (q1, .inl (kJ, n, .inr (.inl tp))), (q2, .inl (kJ, n, .inr (.inl bt))), (g0, .inr (1, [.ref y0, .ref y1, .ref y2])), (y0, .inl (kZ, n2, .inl kn2)), (y1, .inl (kJ, n2, .inr (.inl tp2))), (y2, .inl (kJ, n2, .inr (.inl bt2)))] sz) := by
  refine Met.ofW (cc := bF_putDifference) (maxL := 9) (ret := none) (by decide) rfl ?_
  intro p e s m args below meth c s₁ B hml hv
  obtain ⟨rfl, hsz, ⟨hP, hK, hN⟩, hD0⟩ := hv
  have hx := B.exec
  have hb := B.bytes
  have hr := B.returns
  have hts := atoms_spec (ws := wF_putDifference) B.pre
  have hown : s.vm.findClass NF = some m.cls := findClass_of_methodNamed B.named
  have hlocks := B.notSynchronized
  subst hsz
  have hD := hD0.self (sz := s.heap.size)
  generalize hAe : va_A [(h0, .inr (1, [.ref q0, .ref q1, .ref q2])), (q0, .inl (kZ, n, .inl kn)), (q1, .inl (kJ, n, .inr (.inl tp))), (q2, .inl (kJ, n, .inr (.inl bt))), (g0, .inr (1, [.ref y0, .ref y1, .ref y2])), (y0, .inl (kZ, n2, .inl kn2)), (y1, .inl (kJ, n2, .inr (.inl tp2))), (y2, .inl (kJ, n2, .inr (.inl bt2)))] s.heap.size = A at hD ⊢
  have hA : ∀ q : Nat, s.heap.size ≤ q → A q := fun q h => by rw [← hAe]; exact Or.inr h
  have hS : va_S A s.heap s.heap [] := va_S.rf
  have hP : va_P D rcl [(h0, .inr (1, [.ref q0, .ref q1, .ref q2])), (q0, .inl (kZ, n, .inl kn)), (q1, .inl (kJ, n, .inr (.inl tp))), (q2, .inl (kJ, n, .inr (.inl bt))), (g0, .inr (1, [.ref y0, .ref y1, .ref y2])), (y0, .inl (kZ, n2, .inl kn2)), (y1, .inl (kJ, n2, .inr (.inl tp2))), (y2, .inl (kJ, n2, .inr (.inl bt2)))] s.heap := hP
  have hl := lv_entry ([.ref h0, .int (nI i), .ref g0, .long top, .long bot]) (n := 9) (Nat.le_of_ble_eq_true rfl)
  rw [lg_entry_eq]
  generalize (lg_sl ([.ref h0, .int (nI i), .ref g0, .long top, .long bot]) ++ List.replicate (9 - (lg_sl ([.ref h0, .int (nI i), .ref g0, .long top, .long bot])).length) Slot.unset).toArray = ls at hl ⊢
  have hl : lv_has ls 9 [(0, .ref h0), (1, .int (nI i)), (2, .ref g0), (3, .long top), (5, .long bot)] := hl
  refine lv_aload_n hx hb dF_putDifference_0 rfl (lv_at hl 2 rfl) ?_
  refine va_get (D := D) (cl := rcl) (ci := 1) (v := .ref y1) (C := NF) (T := TF) (N := 3) hx hb hts (fun w h => gw_t w (uwF w h)) hown hK hP 4 rfl rfl 1 (by decide) (hts _ (gw_t _ hw96)) (fun _ h9 => h9) rfl dF_putDifference_1 ?_
  refine lv_iconst (v := 0) hx hb dF_putDifference_4 (by decide) ?_
  refine ra_l (k := 0) hx hb hK hP 6 1 rfl rfl (by omega) (by omega) dF_putDifference_5 ?_
  refine lv_lload hx hb dF_putDifference_6 (lv_at hl 4 rfl) ?_
  refine lv_lmul hx hb dF_putDifference_8 ?_
  refine lv_lload_n hx hb dF_putDifference_9 rfl (lv_at hl 3 rfl) ?_
  refine lv_aload_n hx hb dF_putDifference_10 rfl (lv_at hl 2 rfl) ?_
  refine va_get (D := D) (cl := rcl) (ci := 1) (v := .ref y2) (C := NF) (T := TF) (N := 3) hx hb hts (fun w h => gw_t w (uwF w h)) hown hK hP 4 rfl rfl 2 (by decide) (hts _ (gw_t _ hw97)) (fun _ h9 => h9) rfl dF_putDifference_11 ?_
  refine lv_iconst (v := 0) hx hb dF_putDifference_14 (by decide) ?_
  refine ra_l (k := 0) hx hb hK hP 7 1 rfl rfl (by omega) (by omega) dF_putDifference_15 ?_
  refine lv_lmul hx hb dF_putDifference_16 ?_
  refine lv_lsub hx hb dF_putDifference_17 ?_
  refine lv_lstore (lv' := [(7, .long (((tp2 0) * bot) - (top * (bt2 0)))), (0, .ref h0), (1, .int (nI i)), (2, .ref g0), (3, .long top), (5, .long bot)]) hx hb dF_putDifference_18 hl (by decide) rfl (fun ls hl => ?_)
  refine lv_aload_n hx hb dF_putDifference_20 rfl (lv_at hl 1 rfl) ?_
  refine lv_iload_n hx hb dF_putDifference_21 rfl (lv_at hl 2 rfl) ?_
  refine lv_lload hx hb dF_putDifference_22 (lv_at hl 0 rfl) ?_
  refine lv_aload_n hx hb dF_putDifference_24 rfl (lv_at hl 3 rfl) ?_
  refine va_get (D := D) (cl := rcl) (ci := 1) (v := .ref y2) (C := NF) (T := TF) (N := 3) hx hb hts (fun w h => gw_t w (uwF w h)) hown hK hP 4 rfl rfl 2 (by decide) (hts _ (gw_t _ hw97)) (fun _ h9 => h9) rfl dF_putDifference_25 ?_
  refine lv_iconst (v := 0) hx hb dF_putDifference_28 (by decide) ?_
  refine ra_l (k := 0) hx hb hK hP 7 1 rfl rfl (by omega) (by omega) dF_putDifference_29 ?_
  refine lv_lload hx hb dF_putDifference_30 (lv_at hl 5 rfl) ?_
  refine lv_lmul hx hb dF_putDifference_32 ?_
  have hPc := hP.sub (ws' := [(h0, .inr (1, [.ref q0, .ref q1, .ref q2])), (q0, .inl (kZ, n, .inl kn)), (q1, .inl (kJ, n, .inr (.inl tp))), (q2, .inl (kJ, n, .inr (.inl bt)))]) [0, 1, 2, 3] rfl
  have hDc := hD.sub (ws' := [(h0, .inr (1, [.ref q0, .ref q1, .ref q2])), (q0, .inl (kZ, n, .inl kn)), (q1, .inl (kJ, n, .inr (.inl tp))), (q2, .inl (kJ, n, .inr (.inl bt)))]) [0, 1, 2, 3] (by decide) rfl
  have hFc := va_free (wc := [(h0, .inr (1, [.ref q0, .ref q1, .ref q2])), (q0, .inl (kZ, n, .inl kn)), (q1, .inl (kJ, n, .inr (.inl tp))), (q2, .inl (kJ, n, .inr (.inl bt)))]) hD hS hA [0, 1, 2, 3] rfl
  refine va_callv (va_runV (C := NF) (As := [.int (nI i), .long (((tp2 0) * bot) - (top * (bt2 0))), .long ((bt2 0) * bot)]) (rest := []) ⟨hx, hb, hml, hown, hts⟩ (cF_put l D kI kJ kZ kG kH h0 q0 q1 q2 n kn tp bt i (((tp2 0) * bot) - (top * (bt2 0))) ((bt2 0) * bot) hn hi s.heap.size) ⟨cB 3 hts hw396 hw5 hw393 (by decide +kernel) ⟨Nat.le_of_ble_eq_true rfl, Nat.le_of_ble_eq_true rfl⟩ rfl rfl, hts _ (gw_t _ hw394), hts _ (gw_t _ hw395)⟩ ⟨fun a U g mk q => ⟨q.1, q.2.1, q.2.2.1.calling g mk a, q.2.2.2⟩, va_recv hK hPc (ci := 1) (q0 := 0) rfl rfl, fun U hU hW => ⟨rfl, by rw [hU], wd.use hPc hK hN hU hW, hDc.weaken (fun _ _ _ _ => trivial)⟩⟩ rfl rfl hl.1 rfl (lv_room (Nat.le_of_ble_eq_true rfl)) dF_putDifference_33 ⟨Nat.le_of_ble_eq_true rfl, Nat.le_of_ble_eq_true rfl⟩) hS (fun q _ h => hFc q h) hFc (fun u9 t9 H1 locs ht9 hvm9 hr1 hB9 hz9 hk9 hS => ?_)
  obtain ⟨hP1, -, hD1⟩ := hB9
  rw [ht9] at hP1
  obtain ⟨hP, hD⟩ := va_join (wr := [(g0, .inr (1, [.ref y0, .ref y1, .ref y2])), (y0, .inl (kZ, n2, .inl kn2)), (y1, .inl (kJ, n2, .inr (.inl tp2))), (y2, .inl (kJ, n2, .inr (.inl bt2)))]) (w1 := [(h0, .inr (1, [.ref q0, .ref q1, .ref q2])), (q0, .inl (kZ, n, .inl (upd kn i 1))), (q1, .inl (kJ, n, .inr (.inl (vp_updL tp i (fdT (tp2 0 * bot - top * bt2 0) (bt2 0 * bot)))))), (q2, .inl (kJ, n, .inr (.inl (vp_updL bt i (fdB (tp2 0 * bot - top * bt2 0) (bt2 0 * bot))))))]) hP hD [0, 1, 2, 3] [4, 5, 6, 7] rfl rfl (by decide) (by decide) hk9 hFc hP1 hD1
  generalize H1 = H at hP hS ⊢
  have hP : va_P D rcl [(g0, .inr (1, [.ref y0, .ref y1, .ref y2])), (y0, .inl (kZ, n2, .inl kn2)), (y1, .inl (kJ, n2, .inr (.inl tp2))), (y2, .inl (kJ, n2, .inr (.inl bt2))), (h0, .inr (1, [.ref q0, .ref q1, .ref q2])), (q0, .inl (kZ, n, .inl (upd kn i 1))), (q1, .inl (kJ, n, .inr (.inl (vp_updL tp i (fdT (tp2 0 * bot - top * bt2 0) (bt2 0 * bot)))))), (q2, .inl (kJ, n, .inr (.inl (vp_updL bt i (fdB (tp2 0 * bot - top * bt2 0) (bt2 0 * bot))))))] H := hP
  have hD : va_D A [(g0, .inr (1, [.ref y0, .ref y1, .ref y2])), (y0, .inl (kZ, n2, .inl kn2)), (y1, .inl (kJ, n2, .inr (.inl tp2))), (y2, .inl (kJ, n2, .inr (.inl bt2))), (h0, .inr (1, [.ref q0, .ref q1, .ref q2])), (q0, .inl (kZ, n, .inl (upd kn i 1))), (q1, .inl (kJ, n, .inr (.inl (vp_updL tp i (fdT (tp2 0 * bot - top * bt2 0) (bt2 0 * bot)))))), (q2, .inl (kJ, n, .inr (.inl (vp_updL bt i (fdB (tp2 0 * bot - top * bt2 0) (bt2 0 * bot))))))] := hD
  have hP := hP.sub (ws' := [(h0, .inr (1, [.ref q0, .ref q1, .ref q2])), (q0, .inl (kZ, n, .inl (upd kn i 1))), (q1, .inl (kJ, n, .inr (.inl (vp_updL tp i (fdT (tp2 0 * bot - top * bt2 0) (bt2 0 * bot)))))), (q2, .inl (kJ, n, .inr (.inl (vp_updL bt i (fdB (tp2 0 * bot - top * bt2 0) (bt2 0 * bot)))))), (g0, .inr (1, [.ref y0, .ref y1, .ref y2])), (y0, .inl (kZ, n2, .inl kn2)), (y1, .inl (kJ, n2, .inr (.inl tp2))), (y2, .inl (kJ, n2, .inr (.inl bt2)))]) [4, 5, 6, 7, 0, 1, 2, 3] rfl
  have hD := hD.sub (ws' := [(h0, .inr (1, [.ref q0, .ref q1, .ref q2])), (q0, .inl (kZ, n, .inl (upd kn i 1))), (q1, .inl (kJ, n, .inr (.inl (vp_updL tp i (fdT (tp2 0 * bot - top * bt2 0) (bt2 0 * bot)))))), (q2, .inl (kJ, n, .inr (.inl (vp_updL bt i (fdB (tp2 0 * bot - top * bt2 0) (bt2 0 * bot)))))), (g0, .inr (1, [.ref y0, .ref y1, .ref y2])), (y0, .inl (kZ, n2, .inl kn2)), (y1, .inl (kJ, n2, .inr (.inl tp2))), (y2, .inl (kJ, n2, .inr (.inl bt2)))]) [4, 5, 6, 7, 0, 1, 2, 3] (by decide) rfl
  have hP : va_P D rcl [(h0, .inr (1, [.ref q0, .ref q1, .ref q2])), (q0, .inl (kZ, n, .inl (upd kn i 1))), (q1, .inl (kJ, n, .inr (.inl (vp_updL tp i (fdT (tp2 0 * bot - top * bt2 0) (bt2 0 * bot)))))), (q2, .inl (kJ, n, .inr (.inl (vp_updL bt i (fdB (tp2 0 * bot - top * bt2 0) (bt2 0 * bot)))))), (g0, .inr (1, [.ref y0, .ref y1, .ref y2])), (y0, .inl (kZ, n2, .inl kn2)), (y1, .inl (kJ, n2, .inr (.inl tp2))), (y2, .inl (kJ, n2, .inr (.inl bt2)))] H := hP
  have hD : va_D A [(h0, .inr (1, [.ref q0, .ref q1, .ref q2])), (q0, .inl (kZ, n, .inl (upd kn i 1))), (q1, .inl (kJ, n, .inr (.inl (vp_updL tp i (fdT (tp2 0 * bot - top * bt2 0) (bt2 0 * bot)))))), (q2, .inl (kJ, n, .inr (.inl (vp_updL bt i (fdB (tp2 0 * bot - top * bt2 0) (bt2 0 * bot)))))), (g0, .inr (1, [.ref y0, .ref y1, .ref y2])), (y0, .inl (kZ, n2, .inl kn2)), (y1, .inl (kJ, n2, .inr (.inl tp2))), (y2, .inl (kJ, n2, .inr (.inl bt2)))] := hD
  refine W.widen (k := 0) (n := 0) (by omega) (by omega) ?_
  exact W.vret hx hb hr (fun t ht9 hW9 => ⟨⟨(vp_updL tp i (fdT (tp2 0 * bot - top * bt2 0) (bt2 0 * bot)), vp_updL bt i (fdB (tp2 0 * bot - top * bt2 0) (bt2 0 * bot))), rfl, trivial, by rw [ht9]; exact hP, va_K.moved hW9.alike hK, hD⟩, hS.F ht9⟩) hS.2.2 dF_putDifference_36
