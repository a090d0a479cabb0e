/-! Arrays.fill; FractionRow -/
theorem nz_of {x : Int32} (h : vp_nar .boolean x = x) : narrow .boolean (.int x) = .int x := by
  show Value.int (vp_nar .boolean x) = _
  rw [h]
set_option maxHeartbeats 4000000 in
set_option maxRecDepth 100000 in
theorem cJA_fill (l : Launch) (D : va_G) (kI kJ kZ kG kH : ClassId) (a : Nat) (n : Nat) (f : Nat → Int32) (v : Int32) (hn : n < 2 ^ 31) (sz : Nat) : Met l yJA_fill wJA_fill (rmL 0 0 0) (va_Pc [.ref a, .int v] (fun U => U.heap.size = sz ∧ wd D kI kJ kZ kG kH [(a, .inl (kI, n, .inl f))] U ∧ va_D (fun _ => True) [(a, .inl (kI, n, .inl f))])) (va_Qv (fun u : Unit => True) (fun u t => va_P D rcl [(a, .inl (kI, n, .inl (fun _ => v)))] t.heap ∧ va_K D rcl (TY kI kJ kZ kG kH) t ∧ va_D (va_A [(a, .inl (kI, n, .inl f))] sz) [(a, .inl (kI, n, .inl (fun _ => v)))]) (va_A [(a, .inl (kI, n, .inl f))] sz)) 0 0 (va_A [(a, .inl (kI, n, .inl f))] sz) := by
  refine Met.ofW (cc := bJA_fill) (maxL := 4) (ret := none) (by decide) rfl ?_
  intro p e s m args below meth c s₁ B hml hv
  obtain ⟨rfl, hsz, ⟨hP, hK, hN⟩, hD0⟩ := hv
  have hx := B.exec
  have hb := B.bytes
  have hr := B.returns
  have hts := atoms_spec (ws := wJA_fill) B.pre
  have hown : s.vm.findClass NJA = some m.cls := findClass_of_methodNamed B.named
  have hlocks := B.notSynchronized
  subst hsz
  have hD := hD0.self (sz := s.heap.size)
  generalize hAe : va_A [(a, .inl (kI, n, .inl f))] s.heap.size = A at hD ⊢
  have hA : ∀ q : Nat, s.heap.size ≤ q → A q := fun q h => by rw [← hAe]; exact Or.inr h
  have hS : va_S A s.heap s.heap [] := va_S.rf
  have hP : va_P D rcl [(a, .inl (kI, n, .inl f))] s.heap := hP
  have hl := lv_entry ([.ref a, .int v]) (n := 4) (Nat.le_of_ble_eq_true rfl)
  rw [lg_entry_eq]
  generalize (lg_sl ([.ref a, .int v]) ++ List.replicate (4 - (lg_sl ([.ref a, .int v])).length) Slot.unset).toArray = ls at hl ⊢
  have hl : lv_has ls 4 [(0, .ref a), (1, .int v)] := hl
  have LP5 : ∀ (dd : Nat) (k : Nat) (g : Nat → Int32) (H : Heap) (locs : List Loc) (ls : Array Slot), n - k < dd → (k ≤ n) → (∀ j, j < k → g j = v) → va_P D rcl [(a, .inl (kI, n, .inl g))] H → va_D A [(a, .inl (kI, n, .inl g))] → va_S A s.heap H locs → lv_has ls 4 [(0, .ref a), (1, .int v), (2, .int (nI k)), (3, .int (nI n))] → W p l e (headSpec wJA_fill (rmL 0 0 0)).room s m ([.ref a, .int v] : List Value).toArray below meth c H locs 0 0 (MQ below (va_Qv (fun u : Unit => True) (fun u t => va_P D rcl [(a, .inl (kI, n, .inl (fun _ => v)))] t.heap ∧ va_K D rcl (TY kI kJ kZ kG kH) t ∧ va_D A [(a, .inl (kI, n, .inl (fun _ => v)))]) A) ([.ref a, .int v] : List Value).toArray s 0 0 A) (F0 m 5 ls []) := by
    intro dd
    induction dd with
    | zero =>
      intro k g H locs ls hm
      exact absurd hm (Nat.not_lt_zero _)
    | succ dd ih =>
      intro k g H locs ls hm hk hg hP hD hS hl
      refine lv_iload_n hx hb dJA_fill_5 rfl (lv_at hl 2 rfl) ?_
      refine lv_iload_n hx hb dJA_fill_6 rfl (lv_at hl 3 rfl) ?_
      refine lv_icmp_ge (tgt := 20) hx hb dJA_fill_7 (by decide) (fun c7 => ?_) (fun c7 => ?_)
      · have c7 : n ≤ k := (nI_leI (a := n) (b := k) (by omega) (by omega)).mp c7
        obtain ⟨hP, hD⟩ := fn_i hP hD 0 rfl (fun _ => v) (fun j hj => hg j (by omega))
        have hP : va_P D rcl [(a, .inl (kI, n, .inl (fun _ => v)))] H := hP
        have hD : va_D A [(a, .inl (kI, n, .inl (fun _ => v)))] := hD
        refine W.widen (k := 0) (n := 0) (by omega) (by omega) ?_
        exact W.vret hx hb hr (fun t ht9 hW9 => ⟨⟨(), rfl, trivial, by rw [ht9]; exact hP, va_K.moved hW9.alike hK, hD⟩, hS.F ht9⟩) hS.2.2 dJA_fill_20
      · have c7 : ¬ n ≤ k := mt (nI_leI (a := n) (b := k) (by omega) (by omega)).mpr c7
        refine lv_aload_n hx hb dJA_fill_10 rfl (lv_at hl 0 rfl) ?_
        refine lv_iload_n hx hb dJA_fill_11 rfl (lv_at hl 2 rfl) ?_
        refine lv_iload_n hx hb dJA_fill_12 rfl (lv_at hl 1 rfl) ?_
        refine wa_i (k := k) hx hb hK hP hD hS 0 0 rfl rfl (by omega) (by omega) dJA_fill_13 (fun H locs hP hD hS => ?_)
        have hP : va_P D rcl [(a, .inl (kI, n, .inl (upd g k v)))] H := hP
        have hD : va_D A [(a, .inl (kI, n, .inl (upd g k v)))] := hD
        refine lv_iinc (v := nI (k + 1)) (lv' := [(2, .int (nI (k + 1))), (0, .ref a), (1, .int v), (3, .int (nI n))]) hx hb dJA_fill_14 hl (k := 2) rfl (nI_add k 1) (by decide) rfl (fun ls hl => ?_)
        refine lv_goto (tgt := 5) hx hb dJA_fill_17 (by decide) ?_
        exact ih (k + 1) (upd g k v) _ _ ls (by omega) (by omega) (upd_lt hg) hP hD hS (lv_sub hl [1, 2, 0, 3] rfl)
  refine lv_iconst (v := 0) hx hb dJA_fill_0 (by decide) ?_
  refine lv_istore_n (lv' := [(2, .int 0), (0, .ref a), (1, .int v)]) hx hb dJA_fill_1 rfl hl (by decide) rfl (fun ls hl => ?_)
  refine lv_aload_n hx hb dJA_fill_2 rfl (lv_at hl 1 rfl) ?_
  refine va_alen (v := nI n) hx hb hK hP 0 0 rfl rfl rfl dJA_fill_3 ?_
  refine lv_istore_n (lv' := [(3, .int (nI n)), (2, .int 0), (0, .ref a), (1, .int v)]) hx hb dJA_fill_4 rfl hl (by decide) rfl (fun ls hl => ?_)
  exact LP5 _ 0 f _ _ ls (Nat.lt_succ_self _) (by omega) (fun j h => absurd h (Nat.not_lt_zero j)) hP hD hS (lv_sub hl [2, 3, 1, 0] rfl)

set_option maxHeartbeats 4000000 in
set_option maxRecDepth 100000 in
theorem cF_isKnown (l : Launch) (D : va_G) (kI kJ kZ kG kH : ClassId) (h0 : Nat) (q0 : Nat) (q1 : Nat) (q2 : Nat) (n : Nat) (kn : Nat → Int32) (tp : Nat → Int64) (bt : Nat → Int64) (i : Nat) (hn : n < 2 ^ 31) (hi : i < n) (hz : vp_nar .boolean (kn i) = kn i) : Met l yF_isKnown wF_isKnown (rmL 0 0 0) (va_Pc [.ref h0, .int (nI i)] (fun U => wd D kI kJ kZ kG kH [(h0, .inr (1, [.ref q0, .ref q1, .ref q2])), (q0, .inl (kZ, n, .inl kn)), (q1, .inl (kJ, n, .inr (.inl tp))), (q2, .inl (kJ, n, .inr (.inl bt)))] U)) (vp_Si (fun r : Int32 => r = kn i)) 0 0 (fun _ => False) := by
  refine Met.ofW (cc := bF_isKnown) (maxL := 2) (ret := (some .boolean)) (by decide) rfl ?_
  intro p e s m args below meth c s₁ B hml hv
  obtain ⟨rfl, hP, hK, hN⟩ := hv
  have hx := B.exec
  have hb := B.bytes
  have hr := B.returns
  have hts := atoms_spec (ws := wF_isKnown) B.pre
  have hown : s.vm.findClass NF = some m.cls := findClass_of_methodNamed B.named
  have hlocks := B.notSynchronized
  have hl := lv_entry ([.ref h0, .int (nI i)]) (n := 2) (Nat.le_of_ble_eq_true rfl)
  rw [lg_entry_eq]
  generalize (lg_sl ([.ref h0, .int (nI i)]) ++ List.replicate (2 - (lg_sl ([.ref h0, .int (nI i)])).length) Slot.unset).toArray = ls at hl ⊢
  have hl : lv_has ls 2 [(0, .ref h0), (1, .int (nI i))] := hl
  refine lv_aload_n hx hb dF_isKnown_0 rfl (lv_at hl 0 rfl) ?_
  refine va_get (D := D) (cl := rcl) (ci := 1) (v := .ref q0) (C := NF) (T := TF) (N := 3) hx hb hts (fun w h => gw_t w (uwF w h)) hown hK hP 0 rfl rfl 0 (by decide) (hts _ (gw_t _ hw95)) (fun _ h9 => h9) rfl dF_isKnown_1 ?_
  refine lv_iload_n hx hb dF_isKnown_4 rfl (lv_at hl 1 rfl) ?_
  refine ra_z (k := i) hx hb hK hP 1 2 rfl rfl (hi) (by omega) dF_isKnown_5 ?_
  exact W.zret (v := kn i) (ty := .boolean) hx hb hr (nz_of hz) (fun t ht9 hW9 => ⟨_, rfl, rfl, ht9⟩) t_nil dF_isKnown_6

set_option maxHeartbeats 4000000 in
set_option maxRecDepth 100000 in
theorem cF_tell (l : Launch) (D : va_G) (kI kJ kZ kG kH : ClassId) (h0 : Nat) (q0 : Nat) (q1 : Nat) (q2 : Nat) (n : Nat) (kn : Nat → Int32) (tp : Nat → Int64) (bt : Nat → Int64) (i : Nat) (pt : Int32) (hn : n < 2 ^ 31) (hi : i < n) : Met l yF_tell wF_tell (rmL 0 0 0) (va_Pc [.ref h0, .int (nI i), .int pt] (fun U => wd D kI kJ kZ kG kH [(h0, .inr (1, [.ref q0, .ref q1, .ref q2])), (q0, .inl (kZ, n, .inl kn)), (q1, .inl (kJ, n, .inr (.inl tp))), (q2, .inl (kJ, n, .inr (.inl bt)))] U)) (vp_Sl (fun r : Int64 => r = if pt = 0 then tp i else if pt = 1 then bt i else 0)) 0 0 (fun _ => False) := by
  refine Met.ofW (cc := bF_tell) (maxL := 3) (ret := (some .long)) (by decide) rfl ?_
  intro p e s m args below meth c s₁ B hml hv
  obtain ⟨rfl, hP, hK, hN⟩ := hv
  have hx := B.exec
  have hb := B.bytes
  have hr := B.returns
  have hts := atoms_spec (ws := wF_tell) B.pre
  have hown : s.vm.findClass NF = some m.cls := findClass_of_methodNamed B.named
  have hlocks := B.notSynchronized
  have hl := lv_entry ([.ref h0, .int (nI i), .int pt]) (n := 3) (Nat.le_of_ble_eq_true rfl)
  rw [lg_entry_eq]
  generalize (lg_sl ([.ref h0, .int (nI i), .int pt]) ++ List.replicate (3 - (lg_sl ([.ref h0, .int (nI i), .int pt])).length) Slot.unset).toArray = ls at hl ⊢
  have hl : lv_has ls 3 [(0, .ref h0), (1, .int (nI i)), (2, .int pt)] := hl
  refine lv_iload_n hx hb dF_tell_0 rfl (lv_at hl 2 rfl) ?_
  refine lv_if_ne (tgt := 11) hx hb dF_tell_1 (by decide) (fun c1 => ?_) (fun c1 => ?_)
  · refine lv_iload_n hx hb dF_tell_11 rfl (lv_at hl 2 rfl) ?_
    refine lv_iconst (v := 1) hx hb dF_tell_12 (by decide) ?_
    refine lv_icmp_ne (tgt := 25) hx hb dF_tell_13 (by decide) (fun c13 => ?_) (fun c13 => ?_)
    · refine lv_lconst (v := 0) hx hb dF_tell_25 (by decide) ?_
      exact W.lret (v := 0) hx hb hr (fun t ht9 hW9 => ⟨_, rfl, by rw [if_neg c1, if_neg c13], ht9⟩) t_nil dF_tell_26
    · refine lv_aload_n hx hb dF_tell_16 rfl (lv_at hl 0 rfl) ?_
      refine va_get (D := D) (cl := rcl) (ci := 1) (v := .ref q2) (C := NF) (T := TF) (N := 3) hx hb hts (fun w h => gw_t w (uwF w h)) hown hK hP 0 rfl rfl 2 (by decide) (hts _ (gw_t _ hw97)) (fun _ h9 => h9) rfl dF_tell_17 ?_
      refine lv_iload_n hx hb dF_tell_20 rfl (lv_at hl 1 rfl) ?_
      refine ra_l (k := i) hx hb hK hP 3 1 rfl rfl (by omega) (by omega) dF_tell_21 ?_
      refine lv_goto (tgt := 26) hx hb dF_tell_22 (by decide) ?_
      exact W.lret (v := bt i) hx hb hr (fun t ht9 hW9 => ⟨_, rfl, by rw [if_neg c1, if_pos c13], ht9⟩) t_nil dF_tell_26
  · refine lv_aload_n hx hb dF_tell_4 rfl (lv_at hl 0 rfl) ?_
    refine va_get (D := D) (cl := rcl) (ci := 1) (v := .ref q1) (C := NF) (T := TF) (N := 3) hx hb hts (fun w h => gw_t w (uwF w h)) hown hK hP 0 rfl rfl 1 (by decide) (hts _ (gw_t _ hw96)) (fun _ h9 => h9) rfl dF_tell_5 ?_
    refine lv_iload_n hx hb dF_tell_8 rfl (lv_at hl 1 rfl) ?_
    refine ra_l (k := i) hx hb hK hP 2 1 rfl rfl (by omega) (by omega) dF_tell_9 ?_
    exact W.lret (v := tp i) hx hb hr (fun t ht9 hW9 => ⟨_, rfl, by rw [if_pos c1], ht9⟩) t_nil dF_tell_10

set_option maxHeartbeats 4000000 in
set_option maxRecDepth 100000 in
theorem cF_putNone (l : Launch) (D : va_G) (kI kJ kZ kG kH : ClassId) (h0 : Nat) (q0 : Nat) (q1 : Nat) (q2 : Nat) (n : Nat) (kn : Nat → Int32) (tp : Nat → Int64) (bt : Nat → Int64) (i : Nat) (hn : n < 2 ^ 31) (hi : i < n) (sz : Nat) : Met l yF_putNone wF_putNone (rmL 0 0 0) (va_Pc [.ref h0, .int (nI i)] (fun U => U.heap.size = sz ∧ wd D kI kJ kZ kG kH [(h0, .inr (1, [.ref q0, .ref q1, .ref q2])), (q0, .inl (kZ, n, .inl kn)), (q1, .inl (kJ, n, .inr (.inl tp))), (q2, .inl (kJ, n, .inr (.inl bt)))] U ∧ va_D (fun _ => True) [(h0, .inr (1, [.ref q0, .ref q1, .ref q2])), (q0, .inl (kZ, n, .inl kn)), (q1, .inl (kJ, n, .inr (.inl tp))), (q2, .inl (kJ, n, .inr (.inl bt)))])) (va_Qv (fun u : Unit => True) (fun u t => va_P D rcl [(h0, .inr (1, [.ref q0, .ref q1, .ref q2])), (q0, .inl (kZ, n, .inl (upd kn i 1))), (q1, .inl (kJ, n, .inr (.inl (vp_updL tp i 0)))), (q2, .inl (kJ, n, .inr (.inl (vp_updL bt i 0))))] t.heap ∧ va_K D rcl (TY kI kJ kZ kG kH) t ∧ va_D (va_A [(h0, .inr (1, [.ref q0, .ref q1, .ref q2])), (q0, .inl (kZ, n, .inl kn)), (q1, .inl (kJ, n, .inr (.inl tp))), (q2, .inl (kJ, n, .inr (.inl bt)))] sz) [(h0, .inr (1, [.ref q0, .ref q1, .ref q2])), (q0, .inl (kZ, n, .inl (upd kn i 1))), (q1, .inl (kJ, n, .inr (.inl (vp_updL tp i 0)))), (q2, .inl (kJ, n, .inr (.inl (vp_updL bt i 0))))]) (va_A [(h0, .inr (1, [.ref q0, .ref q1, .ref q2])), (q0, .inl (kZ, n, .inl kn)), (q1, .inl (kJ, n, .inr (.inl tp))), (q2, .inl (kJ, n, .inr (.inl bt)))] sz)) 0 0 (va_A [(h0, .inr (1, [.ref q0, .ref q1, .ref q2])), (q0, .inl (kZ, n, .inl kn)), (q1, .inl (kJ, n, .inr (.inl tp))), (q2, .inl (kJ, n, .inr (.inl bt)))] sz) := by
  refine Met.ofW (cc := bF_putNone) (maxL := 2) (ret := none) (by decide) rfl ?_
  intro p e s m args below meth c s₁ B hml hv
  obtain ⟨rfl, hsz, ⟨hP, hK, hN⟩, hD0⟩ := hv
  have hx := B.exec
  have hb := B.bytes
  have hr := B.returns
  have hts := atoms_spec (ws := wF_putNone) B.pre
  have hown : s.vm.findClass NF = some m.cls := findClass_of_methodNamed B.named
  have hlocks := B.notSynchronized
  subst hsz
  have hD := hD0.self (sz := s.heap.size)
  generalize hAe : va_A [(h0, .inr (1, [.ref q0, .ref q1, .ref q2])), (q0, .inl (kZ, n, .inl kn)), (q1, .inl (kJ, n, .inr (.inl tp))), (q2, .inl (kJ, n, .inr (.inl bt)))] s.heap.size = A at hD ⊢
  have hA : ∀ q : Nat, s.heap.size ≤ q → A q := fun q h => by rw [← hAe]; exact Or.inr h
  have hS : va_S A s.heap s.heap [] := va_S.rf
  have hP : va_P D rcl [(h0, .inr (1, [.ref q0, .ref q1, .ref q2])), (q0, .inl (kZ, n, .inl kn)), (q1, .inl (kJ, n, .inr (.inl tp))), (q2, .inl (kJ, n, .inr (.inl bt)))] s.heap := hP
  have hl := lv_entry ([.ref h0, .int (nI i)]) (n := 2) (Nat.le_of_ble_eq_true rfl)
  rw [lg_entry_eq]
  generalize (lg_sl ([.ref h0, .int (nI i)]) ++ List.replicate (2 - (lg_sl ([.ref h0, .int (nI i)])).length) Slot.unset).toArray = ls at hl ⊢
  have hl : lv_has ls 2 [(0, .ref h0), (1, .int (nI i))] := hl
  refine lv_aload_n hx hb dF_putNone_0 rfl (lv_at hl 0 rfl) ?_
  refine va_get (D := D) (cl := rcl) (ci := 1) (v := .ref q0) (C := NF) (T := TF) (N := 3) hx hb hts (fun w h => gw_t w (uwF w h)) hown hK hP 0 rfl rfl 0 (by decide) (hts _ (gw_t _ hw95)) (fun _ h9 => h9) rfl dF_putNone_1 ?_
  refine lv_iload_n hx hb dF_putNone_4 rfl (lv_at hl 1 rfl) ?_
  refine lv_iconst (v := 1) hx hb dF_putNone_5 (by decide) ?_
  refine wa_z (k := i) hx hb hK hP hD hS 1 2 rfl rfl (by decide) (by omega) (by omega) dF_putNone_6 (fun H locs hP hD hS => ?_)
  have hP : va_P D rcl [(h0, .inr (1, [.ref q0, .ref q1, .ref q2])), (q0, .inl (kZ, n, .inl (upd kn i 1))), (q1, .inl (kJ, n, .inr (.inl tp))), (q2, .inl (kJ, n, .inr (.inl bt)))] H := hP
  have hD : va_D A [(h0, .inr (1, [.ref q0, .ref q1, .ref q2])), (q0, .inl (kZ, n, .inl (upd kn i 1))), (q1, .inl (kJ, n, .inr (.inl tp))), (q2, .inl (kJ, n, .inr (.inl bt)))] := hD
  refine lv_aload_n hx hb dF_putNone_7 rfl (lv_at hl 0 rfl) ?_
  refine va_get (D := D) (cl := rcl) (ci := 1) (v := .ref q1) (C := NF) (T := TF) (N := 3) hx hb hts (fun w h => gw_t w (uwF w h)) hown hK hP 0 rfl rfl 1 (by decide) (hts _ (gw_t _ hw96)) (fun _ h9 => h9) rfl dF_putNone_8 ?_
  refine lv_iload_n hx hb dF_putNone_11 rfl (lv_at hl 1 rfl) ?_
  refine lv_lconst (v := 0) hx hb dF_putNone_12 (by decide) ?_
  refine wa_l (k := i) hx hb hK hP hD hS 2 1 rfl rfl (by omega) (by omega) dF_putNone_13 (fun H locs hP hD hS => ?_)
  have hP : va_P D rcl [(h0, .inr (1, [.ref q0, .ref q1, .ref q2])), (q0, .inl (kZ, n, .inl (upd kn i 1))), (q1, .inl (kJ, n, .inr (.inl (vp_updL tp i 0)))), (q2, .inl (kJ, n, .inr (.inl bt)))] H := hP
  have hD : va_D A [(h0, .inr (1, [.ref q0, .ref q1, .ref q2])), (q0, .inl (kZ, n, .inl (upd kn i 1))), (q1, .inl (kJ, n, .inr (.inl (vp_updL tp i 0)))), (q2, .inl (kJ, n, .inr (.inl bt)))] := hD
  refine lv_aload_n hx hb dF_putNone_14 rfl (lv_at hl 0 rfl) ?_
  refine va_get (D := D) (cl := rcl) (ci := 1) (v := .ref q2) (C := NF) (T := TF) (N := 3) hx hb hts (fun w h => gw_t w (uwF w h)) hown hK hP 0 rfl rfl 2 (by decide) (hts _ (gw_t _ hw97)) (fun _ h9 => h9) rfl dF_putNone_15 ?_
  refine lv_iload_n hx hb dF_putNone_18 rfl (lv_at hl 1 rfl) ?_
  refine lv_lconst (v := 0) hx hb dF_putNone_19 (by decide) ?_
  refine wa_l (k := i) hx hb hK hP hD hS 3 1 rfl rfl (by omega) (by omega) dF_putNone_20 (fun H locs hP hD hS => ?_)
  have hP : va_P D rcl [(h0, .inr (1, [.ref q0, .ref q1, .ref q2])), (q0, .inl (kZ, n, .inl (upd kn i 1))), (q1, .inl (kJ, n, .inr (.inl (vp_updL tp i 0)))), (q2, .inl (kJ, n, .inr (.inl (vp_updL bt i 0))))] H := hP
  have hD : va_D A [(h0, .inr (1, [.ref q0, .ref q1, .ref q2])), (q0, .inl (kZ, n, .inl (upd kn i 1))), (q1, .inl (kJ, n, .inr (.inl (vp_updL tp i 0)))), (q2, .inl (kJ, n, .inr (.inl (vp_updL bt i 0))))] := hD
  refine W.widen (k := 0) (n := 0) (by omega) (by omega) ?_
  exact W.vret hx hb hr (fun t ht9 hW9 => ⟨⟨(), rfl, trivial, by rw [ht9]; exact hP, va_K.moved hW9.alike hK, hD⟩, hS.F ht9⟩) hS.2.2 dF_putNone_21

set_option maxHeartbeats 4000000 in
set_option maxRecDepth 100000 in
theorem cF_forget (l : Launch) (D : va_G) (kI kJ kZ kG kH : ClassId) (h0 : Nat) (q0 : Nat) (q1 : Nat) (q2 : Nat) (n : Nat) (kn : Nat → Int32) (tp : Nat → Int64) (bt : Nat → Int64) (hn : n < 2 ^ 31) (sz : Nat) : Met l yF_forget wF_forget (rmL 0 0 0) (va_Pc [.ref h0] (fun U => U.heap.size = sz ∧ wd D kI kJ kZ kG kH [(h0, .inr (1, [.ref q0, .ref q1, .ref q2])), (q0, .inl (kZ, n, .inl kn)), (q1, .inl (kJ, n, .inr (.inl tp))), (q2, .inl (kJ, n, .inr (.inl bt)))] U ∧ va_D (fun _ => True) [(h0, .inr (1, [.ref q0, .ref q1, .ref q2])), (q0, .inl (kZ, n, .inl kn)), (q1, .inl (kJ, n, .inr (.inl tp))), (q2, .inl (kJ, n, .inr (.inl bt)))])) (va_Qv (fun u : Unit => True) (fun u t => va_P D rcl [(h0, .inr (1, [.ref q0, .ref q1, .ref q2])), (q0, .inl (kZ, n, .inl (fun _ => 0))), (q1, .inl (kJ, n, .inr (.inl (fun _ => 0)))), (q2, .inl (kJ, n, .inr (.inl (fun _ => 0))))] t.heap ∧ va_K D rcl (TY kI kJ kZ kG kH) t ∧ va_D (va_A [(h0, .inr (1, [.ref q0, .ref q1, .ref q2])), (q0, .inl (kZ, n, .inl kn)), (q1, .inl (kJ, n, .inr (.inl tp))), (q2, .inl (kJ, n, .inr (.inl bt)))] sz) [(h0, .inr (1, [.ref q0, .ref q1, .ref q2])), (q0, .inl (kZ, n, .inl (fun _ => 0))), (q1, .inl (kJ, n, .inr (.inl (fun _ => 0)))), (q2, .inl (kJ, n, .inr (.inl (fun _ => 0))))]) (va_A [(h0, .inr (1, [.ref q0, .ref q1, .ref q2])), (q0, .inl (kZ, n, .inl kn)), (q1, .inl (kJ, n, .inr (.inl tp))), (q2, .inl (kJ, n, .inr (.inl bt)))] sz)) 0 0 (va_A [(h0, .inr (1, [.ref q0, .ref q1, .ref q2])), (q0, .inl (kZ, n, .inl kn)), (q1, .inl (kJ, n, .inr (.inl tp))), (q2, .inl (kJ, n, .inr (.inl bt)))] sz) := by
  refine Met.ofW (cc := bF_forget) (maxL := 2) (ret := none) (by decide) rfl ?_
  intro p e s m args below meth c s₁ B hml hv
  obtain ⟨rfl, hsz, ⟨hP, hK, hN⟩, hD0⟩ := hv
  have hx := B.exec
  have hb := B.bytes
  have hr := B.returns
  have hts := atoms_spec (ws := wF_forget) B.pre
  have hown : s.vm.findClass NF = some m.cls := findClass_of_methodNamed B.named
  have hlocks := B.notSynchronized
  subst hsz
  have hD := hD0.self (sz := s.heap.size)
  generalize hAe : va_A [(h0, .inr (1, [.ref q0, .ref q1, .ref q2])), (q0, .inl (kZ, n, .inl kn)), (q1, .inl (kJ, n, .inr (.inl tp))), (q2, .inl (kJ, n, .inr (.inl bt)))] s.heap.size = A at hD ⊢
  have hA : ∀ q : Nat, s.heap.size ≤ q → A q := fun q h => by rw [← hAe]; exact Or.inr h
  have hS : va_S A s.heap s.heap [] := va_S.rf
  have hP : va_P D rcl [(h0, .inr (1, [.ref q0, .ref q1, .ref q2])), (q0, .inl (kZ, n, .inl kn)), (q1, .inl (kJ, n, .inr (.inl tp))), (q2, .inl (kJ, n, .inr (.inl bt)))] s.heap := hP
  have hl := lv_entry ([.ref h0]) (n := 2) (Nat.le_of_ble_eq_true rfl)
  rw [lg_entry_eq]
  generalize (lg_sl ([.ref h0]) ++ List.replicate (2 - (lg_sl ([.ref h0])).length) Slot.unset).toArray = ls at hl ⊢
  have hl : lv_has ls 2 [(0, .ref h0)] := hl
  have LP2 : ∀ (dd : Nat) (k : Nat) (x1 : Nat → Int32) (x2 : Nat → Int64) (x3 : Nat → Int64) (H : Heap) (locs : List Loc) (ls : Array Slot), n - k < dd → (k ≤ n) → (∀ j, j < k → x1 j = 0) → (∀ j, j < k → x2 j = 0) → (∀ j, j < k → x3 j = 0) → va_P D rcl [(h0, .inr (1, [.ref q0, .ref q1, .ref q2])), (q0, .inl (kZ, n, .inl x1)), (q1, .inl (kJ, n, .inr (.inl x2))), (q2, .inl (kJ, n, .inr (.inl x3)))] H → va_D A [(h0, .inr (1, [.ref q0, .ref q1, .ref q2])), (q0, .inl (kZ, n, .inl x1)), (q1, .inl (kJ, n, .inr (.inl x2))), (q2, .inl (kJ, n, .inr (.inl x3)))] → va_S A s.heap H locs → lv_has ls 2 [(0, .ref h0), (1, .int (nI k))] → W p l e (headSpec wF_forget (rmL 0 0 0)).room s m ([.ref h0] : List Value).toArray below meth c H locs 0 0 (MQ below (va_Qv (fun u : Unit => True) (fun u t => va_P D rcl [(h0, .inr (1, [.ref q0, .ref q1, .ref q2])), (q0, .inl (kZ, n, .inl (fun _ => 0))), (q1, .inl (kJ, n, .inr (.inl (fun _ => 0)))), (q2, .inl (kJ, n, .inr (.inl (fun _ => 0))))] t.heap ∧ va_K D rcl (TY kI kJ kZ kG kH) t ∧ va_D A [(h0, .inr (1, [.ref q0, .ref q1, .ref q2])), (q0, .inl (kZ, n, .inl (fun _ => 0))), (q1, .inl (kJ, n, .inr (.inl (fun _ => 0)))), (q2, .inl (kJ, n, .inr (.inl (fun _ => 0))))]) A) ([.ref h0] : List Value).toArray s 0 0 A) (F0 m 2 ls []) := by
    intro dd
    induction dd with
    | zero =>
      intro k x1 x2 x3 H locs ls hm
      exact absurd hm (Nat.not_lt_zero _)
    | succ dd ih =>
      intro k x1 x2 x3 H locs ls hm hk g1 g2 g3 hP hD hS hl
      refine lv_iload_n hx hb dF_forget_2 rfl (lv_at hl 1 rfl) ?_
      refine lv_aload_n hx hb dF_forget_3 rfl (lv_at hl 0 rfl) ?_
      refine va_get (D := D) (cl := rcl) (ci := 1) (v := .ref q0) (C := NF) (T := TF) (N := 3) hx hb hts (fun w h => gw_t w (uwF w h)) hown hK hP 0 rfl rfl 0 (by decide) (hts _ (gw_t _ hw95)) (fun _ h9 => h9) rfl dF_forget_4 ?_
      refine va_alen (v := nI n) hx hb hK hP 1 2 rfl rfl rfl dF_forget_7 ?_
      refine lv_icmp_ge (tgt := 38) hx hb dF_forget_8 (by decide) (fun c8 => ?_) (fun c8 => ?_)
      · have c8 : n ≤ k := (nI_leI (a := n) (b := k) (by omega) (by omega)).mp c8
        obtain ⟨hP, hD⟩ := fn_i hP hD 1 rfl (fun _ => 0) (fun j hj => g1 j (by omega))
        have hP : va_P D rcl [(h0, .inr (1, [.ref q0, .ref q1, .ref q2])), (q0, .inl (kZ, n, .inl (fun _ => 0))), (q1, .inl (kJ, n, .inr (.inl x2))), (q2, .inl (kJ, n, .inr (.inl x3)))] H := hP
        have hD : va_D A [(h0, .inr (1, [.ref q0, .ref q1, .ref q2])), (q0, .inl (kZ, n, .inl (fun _ => 0))), (q1, .inl (kJ, n, .inr (.inl x2))), (q2, .inl (kJ, n, .inr (.inl x3)))] := hD
        obtain ⟨hP, hD⟩ := fn_l hP hD 2 rfl (fun _ => 0) (fun j hj => g2 j (by omega))
        have hP : va_P D rcl [(h0, .inr (1, [.ref q0, .ref q1, .ref q2])), (q0, .inl (kZ, n, .inl (fun _ => 0))), (q1, .inl (kJ, n, .inr (.inl (fun _ => 0)))), (q2, .inl (kJ, n, .inr (.inl x3)))] H := hP
        have hD : va_D A [(h0, .inr (1, [.ref q0, .ref q1, .ref q2])), (q0, .inl (kZ, n, .inl (fun _ => 0))), (q1, .inl (kJ, n, .inr (.inl (fun _ => 0)))), (q2, .inl (kJ, n, .inr (.inl x3)))] := hD
        obtain ⟨hP, hD⟩ := fn_l hP hD 3 rfl (fun _ => 0) (fun j hj => g3 j (by omega))
        have hP : va_P D rcl [(h0, .inr (1, [.ref q0, .ref q1, .ref q2])), (q0, .inl (kZ, n, .inl (fun _ => 0))), (q1, .inl (kJ, n, .inr (.inl (fun _ => 0)))), (q2, .inl (kJ, n, .inr (.inl (fun _ => 0))))] H := hP
        have hD : va_D A [(h0, .inr (1, [.ref q0, .ref q1, .ref q2])), (q0, .inl (kZ, n, .inl (fun _ => 0))), (q1, .inl (kJ, n, .inr (.inl (fun _ => 0)))), (q2, .inl (kJ, n, .inr (.inl (fun _ => 0))))] := hD
        refine W.widen (k := 0) (n := 0) (by omega) (by omega) ?_
        exact W.vret hx hb hr (fun t ht9 hW9 => ⟨⟨(), rfl, trivial, by rw [ht9]; exact hP, va_K.moved hW9.alike hK, hD⟩, hS.F ht9⟩) hS.2.2 dF_forget_38
      · have c8 : ¬ n ≤ k := mt (nI_leI (a := n) (b := k) (by omega) (by omega)).mpr c8
        refine lv_aload_n hx hb dF_forget_11 rfl (lv_at hl 0 rfl) ?_
        refine va_get (D := D) (cl := rcl) (ci := 1) (v := .ref q0) (C := NF) (T := TF) (N := 3) hx hb hts (fun w h => gw_t w (uwF w h)) hown hK hP 0 rfl rfl 0 (by decide) (hts _ (gw_t _ hw95)) (fun _ h9 => h9) rfl dF_forget_12 ?_
        refine lv_iload_n hx hb dF_forget_15 rfl (lv_at hl 1 rfl) ?_
        refine lv_iconst (v := 0) hx hb dF_forget_16 (by decide) ?_
        refine wa_z (k := k) hx hb hK hP hD hS 1 2 rfl rfl (by decide) (by omega) (by omega) dF_forget_17 (fun H locs hP hD hS => ?_)
        have hP : va_P D rcl [(h0, .inr (1, [.ref q0, .ref q1, .ref q2])), (q0, .inl (kZ, n, .inl (upd x1 k 0))), (q1, .inl (kJ, n, .inr (.inl x2))), (q2, .inl (kJ, n, .inr (.inl x3)))] H := hP
        have hD : va_D A [(h0, .inr (1, [.ref q0, .ref q1, .ref q2])), (q0, .inl (kZ, n, .inl (upd x1 k 0))), (q1, .inl (kJ, n, .inr (.inl x2))), (q2, .inl (kJ, n, .inr (.inl x3)))] := hD
        refine lv_aload_n hx hb dF_forget_18 rfl (lv_at hl 0 rfl) ?_
        refine va_get (D := D) (cl := rcl) (ci := 1) (v := .ref q1) (C := NF) (T := TF) (N := 3) hx hb hts (fun w h => gw_t w (uwF w h)) hown hK hP 0 rfl rfl 1 (by decide) (hts _ (gw_t _ hw96)) (fun _ h9 => h9) rfl dF_forget_19 ?_
        refine lv_iload_n hx hb dF_forget_22 rfl (lv_at hl 1 rfl) ?_
        refine lv_lconst (v := 0) hx hb dF_forget_23 (by decide) ?_
        refine wa_l (k := k) hx hb hK hP hD hS 2 1 rfl rfl (by omega) (by omega) dF_forget_24 (fun H locs hP hD hS => ?_)
        have hP : va_P D rcl [(h0, .inr (1, [.ref q0, .ref q1, .ref q2])), (q0, .inl (kZ, n, .inl (upd x1 k 0))), (q1, .inl (kJ, n, .inr (.inl (vp_updL x2 k 0)))), (q2, .inl (kJ, n, .inr (.inl x3)))] H := hP
        have hD : va_D A [(h0, .inr (1, [.ref q0, .ref q1, .ref q2])), (q0, .inl (kZ, n, .inl (upd x1 k 0))), (q1, .inl (kJ, n, .inr (.inl (vp_updL x2 k 0)))), (q2, .inl (kJ, n, .inr (.inl x3)))] := hD
        refine lv_aload_n hx hb dF_forget_25 rfl (lv_at hl 0 rfl) ?_
        refine va_get (D := D) (cl := rcl) (ci := 1) (v := .ref q2) (C := NF) (T := TF) (N := 3) hx hb hts (fun w h => gw_t w (uwF w h)) hown hK hP 0 rfl rfl 2 (by decide) (hts _ (gw_t _ hw97)) (fun _ h9 => h9) rfl dF_forget_26 ?_
        refine lv_iload_n hx hb dF_forget_29 rfl (lv_at hl 1 rfl) ?_
        refine lv_lconst (v := 0) hx hb dF_forget_30 (by decide) ?_
        refine wa_l (k := k) hx hb hK hP hD hS 3 1 rfl rfl (by omega) (by omega) dF_forget_31 (fun H locs hP hD hS => ?_)
        have hP : va_P D rcl [(h0, .inr (1, [.ref q0, .ref q1, .ref q2])), (q0, .inl (kZ, n, .inl (upd x1 k 0))), (q1, .inl (kJ, n, .inr (.inl (vp_updL x2 k 0)))), (q2, .inl (kJ, n, .inr (.inl (vp_updL x3 k 0))))] H := hP
        have hD : va_D A [(h0, .inr (1, [.ref q0, .ref q1, .ref q2])), (q0, .inl (kZ, n, .inl (upd x1 k 0))), (q1, .inl (kJ, n, .inr (.inl (vp_updL x2 k 0)))), (q2, .inl (kJ, n, .inr (.inl (vp_updL x3 k 0))))] := hD
        refine lv_iinc (v := nI (k + 1)) (lv' := [(1, .int (nI (k + 1))), (0, .ref h0)]) hx hb dF_forget_32 hl (k := 1) rfl (nI_add k 1) (by decide) rfl (fun ls hl => ?_)
        refine lv_goto (tgt := 2) hx hb dF_forget_35 (by decide) ?_
        exact ih (k + 1) (upd x1 k 0) (vp_updL x2 k 0) (vp_updL x3 k 0) _ _ ls (by omega) (by omega) (upd_lt g1) (updL_lt g2) (updL_lt g3) hP hD hS (lv_sub hl [1, 0] rfl)
  refine lv_iconst (v := 0) hx hb dF_forget_0 (by decide) ?_
  refine lv_istore_n (lv' := [(1, .int 0), (0, .ref h0)]) hx hb dF_forget_1 rfl hl (by decide) rfl (fun ls hl => ?_)
  exact LP2 _ 0 kn tp bt _ _ ls (Nat.lt_succ_self _) (by omega) (fun j h => absurd h (Nat.not_lt_zero j)) (fun j h => absurd h (Nat.not_lt_zero j)) (fun j h => absurd h (Nat.not_lt_zero j)) hP hD hS (lv_sub hl [1, 0] rfl)
